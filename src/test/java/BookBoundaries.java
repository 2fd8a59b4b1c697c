/** The boundary cases of pages, books, leaves, notes and acts: term II, promises 6 to 17. */
final class BookBoundaries {
  private static final int[] NO_WHAT = {-1, 4, Integer.MIN_VALUE, Integer.MAX_VALUE};
  private static final int[] FAR = {-1, Integer.MIN_VALUE, Integer.MAX_VALUE};

  /** Pages 0 1 2 by scholar 3, who is dead, page 3 by 0; notes 0: 0 to 2, 1: 0 denies 3, 2: 3 to leaf 3 of book 0. */
  private static final String TWO = Towns.BARE + "book pages 3 by 3;book pages 1 by 0;"
      + "note 0 to 0 2;note 0 to 1 0 denies;note 3 to 0 3;fact 3;dead 3;";

  private final Sentences s;

  BookBoundaries(Sentences s) { this.s = s; }

  void run() {
    leading();
    page();
    book();
    leaf();
    note();
    leads();
    astray();
    edition();
    editionRefused();
    tear();
    misprint();
    undo();
    anew();
  }

  private void leading() {
    s.says("II", "A NOTE leads to the PAGE that is on the LEAF it says of its BOOK now (a blank LEAF, a torn one, none: to no PAGE).");
    FootNotes x = Towns.of(TWO);
    s.due("leads(0), the last leaf", x.leads(0), 2);
    s.due("leads(2), none, and no leaf of the next book", x.leads(2), -1);
    x.edition(0, 2);
    s.due("leads(0), a blank leaf", x.leads(0), -1);
    s.due("leads(2), the leaf that has come", x.leads(2), 2);
    x.tear(0, 3);
    s.due("leads(2), a torn leaf", x.leads(2), -1);
    x.edition(0, 3);
    s.due("leads(2), a blank leaf behind the last", x.leads(2), -1);
    s.says("II", "A NOTE of a PAGE that is torn out leads to none.");
    FootNotes y = Towns.of(TWO);
    y.tear(0, 0);
    s.due("leads(0)", y.leads(0), -1);
    s.due("leads(1), into another book", y.leads(1), -1);
    y.misprint(0, 1);
    s.due("leads(0), whatever it says", y.leads(0), -1);
    s.says("II", "A torn LEAF stays as a LEAF without a PAGE.");
    s.due("leaf(0, 0)", y.leaf(0, 0), -4);
    s.due("leaf(0, 1)", y.leaf(0, 1), 1);
    s.due("leaves", y.book(0, 1), 3);
    y.tear(0, 2);
    y.tear(0, 1);
    s.due("leaves, all torn", y.book(0, 1), 3);
    s.due("edition ahead of a torn leaf", y.edition(0, 0), 4);
    s.due("leaf(0, 1), moved", y.leaf(0, 1), -4);
  }

  private void page() {
    FootNotes x = Towns.of(TWO);
    s.says(6, "Of a PAGE, what 0: its BOOK,");
    s.due("page(2, 0)", x.page(2, 0), 0);
    s.due("page(3, 0)", x.page(3, 0), 1);
    s.says(6, "2: how many NOTES it has,");
    for (int p = 0; p < 4; p++) s.due("page(" + p + ", 2)", x.page(p, 2), new int[] {2, 0, 0, 1}[p]);
    s.due("24 of one page", Towns.of(Towns.BOOK + "note 0 to 0 9;".repeat(24)).page(0, 2), 24);
    s.says(6, "3: 1 if it is a FACT, else 0.");
    for (int p = 0; p < 4; p++) s.due("page(" + p + ", 3)", x.page(p, 3), p == 3 ? 1 : 0);
    x.tear(1, 0);
    s.due("page(3, 3), torn out", x.page(3, 3), 1);
    s.due("page(3, 2), torn out", x.page(3, 2), 1);
    s.says(6, "1: the LEAF on which it is now (NONE: torn out),");
    s.due("page(3, 1)", x.page(3, 1), -1);
    s.due("page(2, 1)", x.page(2, 1), 2);
    for (int n = 0; n < 27; n++) x.edition(0, 1);
    s.due("page(2, 1), the last of 30", x.page(2, 1), 29);
    s.due("page(0, 1)", x.page(0, 1), 0);
    s.due("page(1, 1)", x.page(1, 1), 28);
    s.says(6, "-2: there are none such.");
    for (int what : NO_WHAT) s.due("page(0, " + what + ")", x.page(0, what), -2);
    s.due("page(4, 1)", x.page(4, 1), -2);
    for (int p : FAR) s.due("page(" + p + ", 0)", x.page(p, 0), -2);
    s.due("page(12, 0) of twelve", Towns.of(Towns.BARE + "book pages 9 by 0;book pages 3 by 0;").page(12, 0), -2);
    s.due("page(0, 0) without books", Towns.of(Towns.BARE).page(0, 0), -2);
  }

  private void book() {
    FootNotes x = Towns.of(TWO);
    s.says(7, "Of a BOOK, what 0: its SCHOLAR,");
    s.due("book(0, 0)", x.book(0, 0), 3);
    s.due("book(1, 0)", x.book(1, 0), 0);
    s.says(7, "3: 1 if its SCHOLAR is dead, else 0.");
    s.due("book(0, 3)", x.book(0, 3), 1);
    s.due("book(1, 3)", x.book(1, 3), 0);
    s.says(7, "1: LEAVES now,");
    s.due("book(0, 1)", x.book(0, 1), 3);
    for (int n = 4; n <= 30; n++) x.edition(0, 0);
    s.due("book(0, 1), full", x.book(0, 1), 30);
    s.due("book(1, 1)", x.book(1, 1), 1);
    x.tear(1, 0);
    s.due("book(1, 1), torn", x.book(1, 1), 1);
    s.says(7, "2: PAGES at first,");
    s.due("book(0, 2)", x.book(0, 2), 3);
    s.due("book(1, 2), torn", x.book(1, 2), 1);
    s.due("book(0, 2), of nine", Towns.ofPages(9, "").book(0, 2), 9);
    s.says(7, "-2: there are none such.");
    for (int what : NO_WHAT) s.due("book(0, " + what + ")", x.book(0, what), -2);
    s.due("book(2, 0)", x.book(2, 0), -2);
    for (int b : FAR) s.due("book(" + b + ", 0)", x.book(b, 0), -2);
    s.due("book(5, 0) of five", Towns.of(Towns.BARE + "book pages 1 by 0;".repeat(5)).book(5, 0), -2);
    s.due("book(0, 0) without books", Towns.of(Towns.BARE).book(0, 0), -2);
  }

  private void leaf() {
    FootNotes x = Towns.of(TWO);
    s.says(8, "The PAGE on a LEAF of a BOOK now.");
    for (int l = 0; l < 3; l++) s.due("leaf(0, " + l + ")", x.leaf(0, l), l);
    s.due("leaf(1, 0)", x.leaf(1, 0), 3);
    s.says(8, "-3: a blank one;");
    x.edition(0, 1);
    s.due("leaf(0, 1)", x.leaf(0, 1), -3);
    s.due("leaf(0, 2)", x.leaf(0, 2), 1);
    s.says(8, "-4: torn out;");
    x.tear(0, 2);
    s.due("leaf(0, 2)", x.leaf(0, 2), -4);
    x.tear(0, 1);
    s.due("leaf(0, 1), a blank one torn out", x.leaf(0, 1), -4);
    s.says(8, "NONE: there is no such LEAF;");
    s.due("leaf(0, 4)", x.leaf(0, 4), -1);
    s.due("leaf(1, 1)", x.leaf(1, 1), -1);
    for (int l : FAR) s.due("leaf(0, " + l + ")", x.leaf(0, l), -1);
    for (int n = 5; n <= 30; n++) x.edition(0, 4);
    s.due("leaf(0, 29), the last of 30", x.leaf(0, 29), -3);
    s.due("leaf(0, 30)", x.leaf(0, 30), -1);
    s.says(8, "-2: there is no such BOOK.");
    s.due("leaf(2, 0)", x.leaf(2, 0), -2);
    for (int b : FAR) s.due("leaf(" + b + ", -1)", x.leaf(b, -1), -2);
  }

  private void note() {
    FootNotes x = Towns.of(TWO);
    s.says(9, "Of a NOTE, what 0: its PAGE, 1: the BOOK,");
    s.due("note(2, 0)", x.note(2, 0), 3);
    s.due("note(1, 0)", x.note(1, 0), 0);
    s.due("note(2, 1)", x.note(2, 1), 0);
    s.due("note(1, 1)", x.note(1, 1), 1);
    s.says(9, "3: 1 if it denies, else 0.");
    for (int n = 0; n < 3; n++) s.due("note(" + n + ", 3)", x.note(n, 3), n == 1 ? 1 : 0);
    s.says(9, "2: the LEAF as it says now,");
    s.due("note(2, 2), none such", x.note(2, 2), 3);
    x.misprint(2, 29);
    s.due("note(2, 2)", x.note(2, 2), 29);
    x.edition(0, 0);
    s.due("note(0, 2), though its leaf moved", x.note(0, 2), 2);
    s.says(9, "-2: there are none such.");
    for (int what : NO_WHAT) s.due("note(0, " + what + ")", x.note(0, what), -2);
    s.due("note(3, 0)", x.note(3, 0), -2);
    for (int n : FAR) s.due("note(" + n + ", 0)", x.note(n, 0), -2);
  }

  private void leads() {
    FootNotes x = Towns.of(TWO);
    s.says(10, "The PAGE to which a NOTE leads now.");
    s.due("leads(0)", x.leads(0), 2);
    s.due("leads(1), which denies", x.leads(1), 3);
    x.misprint(0, 0);
    s.due("leads(0), to its own page", x.leads(0), 0);
    s.says(10, "NONE: to none;");
    s.due("leads(2)", x.leads(2), -1);
    x.misprint(0, 29);
    s.due("leads(0)", x.leads(0), -1);
    x.tear(1, 0);
    s.due("leads(1)", x.leads(1), -1);
    s.says(10, "-2: there is no such NOTE.");
    s.due("leads(3)", x.leads(3), -2);
    for (int n : FAR) s.due("leads(" + n + ")", x.leads(n), -2);
    s.due("leads(24) of 24", Towns.of(Towns.BOOK + "note 0 to 0 0;".repeat(24)).leads(24), -2);
    s.says(11, "The PAGE to which it led at first.");
    s.due("meant(0)", x.meant(0), 2);
    s.due("meant(1), its page torn out now", x.meant(1), 3);
    x.tear(0, 0);
    s.due("meant(0), the note's page torn out now", x.meant(0), 2);
    s.says(11, "NONE, -2 likewise.");
    s.due("meant(2)", x.meant(2), -1);
    x.misprint(2, 0);
    s.due("meant(2), though it leads now", x.meant(2), -1);
    s.due("meant(3)", x.meant(3), -2);
    for (int n : FAR) s.due("meant(" + n + ")", x.meant(n), -2);
  }

  private void astray() {
    s.says(12, "ASTRAY: NOTES that lead to another PAGE than at first,");
    FootNotes x = Towns.of(TWO);
    s.due("astray() of none", x.astray(), 0);
    x.misprint(0, 1);
    s.due("astray()", x.astray(), 1);
    x.misprint(0, 2);
    s.due("astray(), as at first again", x.astray(), 0);
    x.edition(0, 0);
    x.misprint(0, 3);
    s.due("astray(), another leaf but the same page", x.astray() & 1, 0);
    s.says(12, "or to none while they led to one");
    FootNotes y = Towns.of(TWO);
    y.tear(0, 0);
    s.due("astray(), of a torn page", y.astray(), 3);
    y.undo();
    y.tear(1, 0);
    s.due("astray(), to a torn page; what led to none still does", y.astray(), 2);
    s.says(12, "(or to one while they led to none),");
    FootNotes z = Towns.of(TWO);
    z.misprint(2, 0);
    s.due("astray()", z.astray(), 4);
    z.misprint(2, 29);
    s.due("astray(), to none by another leaf", z.astray(), 0);
    s.says(12, "as bits.");
    FootNotes w = Towns.of(Towns.BOOK + "note 0 to 0 0;".repeat(24));
    w.tear(0, 0);
    s.due("astray(), all 24", w.astray(), (1 << 24) - 1);
    s.says(12, "-2: there is no TOWN.");
    s.due("astray()", new FootNotes().astray(), -2);
    s.due("astray() without notes", Towns.of(Towns.BARE).astray(), 0);
  }

  private void leavesAre(FootNotes x, int book, int... want) {
    for (int l = 0; l < want.length; l++) s.due("leaf(" + book + ", " + l + ")", x.leaf(book, l), want[l]);
    s.due("leaves", x.book(book, 1), want.length);
  }

  private void edition() {
    s.says(13, "A blank LEAF comes into a BOOK ahead of a LEAF (0 .. LEAVES; all behind move by one): LEAVES then.");
    FootNotes x = Towns.of(TWO);
    s.due("edition(0, 0)", x.edition(0, 0), 4);
    leavesAre(x, 0, -3, 0, 1, 2);
    s.due("edition(0, 4), behind the last", x.edition(0, 4), 5);
    leavesAre(x, 0, -3, 0, 1, 2, -3);
    x.tear(0, 2);
    s.due("edition(0, 2), ahead of a torn one", x.edition(0, 2), 6);
    leavesAre(x, 0, -3, 0, -3, -4, 2, -3);
    leavesAre(x, 1, 3);
    s.due("edition(1, 1)", x.edition(1, 1), 2);
    leavesAre(x, 1, 3, -3);
    s.due("acts", x.count(6), 5);
  }

  private void editionRefused() {
    s.says(13, "-5: there were 40 acts,");
    FootNotes x = Towns.of(TWO);
    for (int n = 0; n < 39; n++) x.misprint(0, n % 30);
    s.due("the 40th act", x.edition(0, 1), 4);
    s.due("the 41st", x.edition(0, 1), -5);
    leavesAre(x, 0, 0, -3, 1, 2);
    s.due("acts", x.count(6), 40);
    x.undo();
    s.due("the 40th again", x.edition(0, 0), 4);
    s.says(13, "30 LEAVES;");
    FootNotes y = Towns.of(TWO);
    for (int n = 4; n <= 30; n++) s.due("edition to " + n, y.edition(0, 0), n);
    s.due("a 31st leaf ahead of all", y.edition(0, 0), -5);
    s.due("a 31st leaf behind all", y.edition(0, 30), -5);
    s.due("leaves", y.book(0, 1), 30);
    s.due("leaf(0, 29)", y.leaf(0, 29), 2);
    s.due("acts", y.count(6), 27);
    s.due("another book has its own", y.edition(1, 0), 2);
    y.tear(0, 0);
    s.due("a torn leaf counts", y.edition(0, 0), -5);
    s.says(13, "-2: there are none such.");
    s.due("edition(0, 31) of 30", y.edition(0, 31), -2);
    FootNotes z = Towns.of(TWO);
    s.due("edition(0, 4)", z.edition(0, 4), -2);
    s.due("edition(1, 2)", z.edition(1, 2), -2);
    s.due("edition(2, 0)", z.edition(2, 0), -2);
    for (int n : FAR) {
      s.due("edition(" + n + ", 0)", z.edition(n, 0), -2);
      s.due("edition(0, " + n + ")", z.edition(0, n), -2);
    }
    s.due("acts", z.count(6), 0);
    s.due("edition(0, 0) without books", Towns.of(Towns.BARE).edition(0, 0), -2);
    s.due("edition(0, 0) without a town", new FootNotes().edition(0, 0), -2);
  }

  private void tear() {
    FootNotes x = Towns.of(TWO);
    s.says(14, "A LEAF of a BOOK is torn out (the others stay): the PAGE that was on it;");
    s.due("tear(0, 0), the first", x.tear(0, 0), 0);
    leavesAre(x, 0, -4, 1, 2);
    s.due("tear(0, 2), the last", x.tear(0, 2), 2);
    leavesAre(x, 0, -4, 1, -4);
    leavesAre(x, 1, 3);
    s.says(14, "-3: it was blank.");
    x.edition(1, 0);
    s.due("tear(1, 0)", x.tear(1, 0), -3);
    leavesAre(x, 1, -4, 3);
    s.says(14, "-5: it is torn out already,");
    s.due("tear(1, 0) again", x.tear(1, 0), -5);
    s.due("tear(0, 0) again", x.tear(0, 0), -5);
    s.due("acts", x.count(6), 4);
    s.says(14, "there were 40 acts;");
    for (int n = 4; n < 39; n++) x.misprint(0, 0);
    s.due("the 40th act", x.tear(1, 1), 3);
    s.due("the 41st", x.tear(0, 1), -5);
    s.due("leaf(0, 1)", x.leaf(0, 1), 1);
    s.due("acts", x.count(6), 40);
    s.says(14, "-2: there are none such.");
    FootNotes y = Towns.of(TWO);
    s.due("tear(0, 3)", y.tear(0, 3), -2);
    s.due("tear(1, 1)", y.tear(1, 1), -2);
    s.due("tear(2, 0)", y.tear(2, 0), -2);
    for (int n : FAR) {
      s.due("tear(" + n + ", 0)", y.tear(n, 0), -2);
      s.due("tear(0, " + n + ")", y.tear(0, n), -2);
    }
    s.due("acts", y.count(6), 0);
    s.due("tear(0, 0) without a town", new FootNotes().tear(0, 0), -2);
  }

  private void misprint() {
    FootNotes x = Towns.of(TWO);
    s.says(15, "A NOTE says another LEAF (0 .. 29) from now on: which it said.");
    s.due("misprint(0, 0)", x.misprint(0, 0), 2);
    s.due("leads(0)", x.leads(0), 0);
    s.due("misprint(0, 29)", x.misprint(0, 29), 0);
    s.due("note(0, 2)", x.note(0, 2), 29);
    s.due("the others stay", x.note(1, 2) * 100 + x.note(2, 2), 3);
    x.tear(0, 0);
    s.due("misprint(0, 1) of a torn page", x.misprint(0, 1), 29);
    s.due("misprint(0, 1) again", x.misprint(0, 1), 1);
    s.due("acts", x.count(6), 5);
    s.says(15, "-5: there were 40 acts;");
    for (int n = 5; n < 39; n++) x.edition(n < 20 ? 0 : 1, 0);
    s.due("the 40th act", x.misprint(2, 5), 3);
    s.due("the 41st", x.misprint(2, 6), -5);
    s.due("note(2, 2)", x.note(2, 2), 5);
    s.due("acts", x.count(6), 40);
    s.says(15, "-2: there are none such.");
    FootNotes y = Towns.of(TWO);
    s.due("misprint(3, 0)", y.misprint(3, 0), -2);
    s.due("misprint(0, 30)", y.misprint(0, 30), -2);
    for (int n : FAR) {
      s.due("misprint(" + n + ", 0)", y.misprint(n, 0), -2);
      s.due("misprint(0, " + n + ")", y.misprint(0, n), -2);
    }
    s.due("acts", y.count(6), 0);
    s.due("misprint(0, 0) without a town", new FootNotes().misprint(0, 0), -2);
  }

  private void undo() {
    s.says(16, "The latest act (edition, tear, misprint) is taken back: how many there are.");
    FootNotes x = Towns.of(TWO);
    x.edition(0, 3);
    x.tear(0, 3);
    x.tear(0, 0);
    x.edition(0, 1);
    x.misprint(0, 1);
    x.misprint(0, 1);
    leavesAre(x, 0, -4, -3, 1, 2, -4);
    s.due("undo a misprint to what it said", x.undo(), 5);
    s.due("note(0, 2)", x.note(0, 2), 1);
    s.due("undo a misprint", x.undo(), 4);
    s.due("note(0, 2)", x.note(0, 2), 2);
    s.due("undo an edition", x.undo(), 3);
    leavesAre(x, 0, -4, 1, 2, -4);
    s.due("undo a tear", x.undo(), 2);
    leavesAre(x, 0, 0, 1, 2, -4);
    s.due("leads(0)", x.leads(0), 2);
    s.due("undo a tear of a blank", x.undo(), 1);
    leavesAre(x, 0, 0, 1, 2, -3);
    s.due("undo an edition behind the last", x.undo(), 0);
    leavesAre(x, 0, 0, 1, 2);
    undoElsewhere();
    s.says(16, "-5: there is none;");
    s.due("undo()", x.undo(), -5);
    s.due("acts", x.count(6), 0);
    s.due("undo() in a town without books", Towns.of(Towns.BARE).undo(), -5);
    for (int n = 0; n < 40; n++) x.misprint(0, n % 30);
    for (int n = 39; n >= 0; n--) s.due("undo to " + n, x.undo(), n);
    s.due("undo() of all forty", x.undo(), -5);
    s.due("note(0, 2)", x.note(0, 2), 2);
    s.says(16, "-2: there is no TOWN.");
    s.due("undo()", new FootNotes().undo(), -2);
  }

  /** Acts on the last book and note, the book full. */
  private void undoElsewhere() {
    FootNotes x = Towns.of(Towns.BARE + "book pages 1 by 0;".repeat(5) + "note 0 to 4 0;note 4 to 4 9;");
    for (int n = 2; n <= 30; n++) x.edition(4, 0);
    x.misprint(1, 29);
    x.tear(4, 29);
    x.tear(3, 0);
    s.due("undo a tear in book 3", x.undo(), 31);
    s.due("leaf(3, 0)", x.leaf(3, 0), 3);
    s.due("undo a tear in book 4", x.undo(), 30);
    s.due("leaf(4, 29)", x.leaf(4, 29), 4);
    s.due("leads(1)", x.leads(1), 4);
    s.due("undo a misprint of note 1", x.undo(), 29);
    s.due("note(1, 2)", x.note(1, 2), 9);
    s.due("note(0, 2)", x.note(0, 2), 0);
    for (int n = 28; n >= 0; n--) s.due("undo an edition of a full book", x.undo(), n);
    for (int b = 0; b < 5; b++) leavesAre(x, b, b);
  }

  private void anew() {
    s.says(17, "All are: how many there were.");
    FootNotes x = Towns.of(TWO);
    s.due("anew() of none", x.anew(), 0);
    for (int n = 0; n < 27; n++) x.edition(0, n);
    for (int n = 27; n < 38; n++) x.misprint(0, n - 20);
    x.tear(0, 29);
    x.tear(1, 0);
    s.due("anew() of forty", x.anew(), 40);
    leavesAre(x, 0, 0, 1, 2);
    leavesAre(x, 1, 3);
    s.due("note(0, 2)", x.note(0, 2), 2);
    s.due("leads(0)", x.leads(0), 2);
    s.due("page(2, 1)", x.page(2, 1), 2);
    s.due("grounded()", x.grounded(), 9);
    s.due("acts", x.count(6), 0);
    s.due("undo()", x.undo(), -5);
    s.due("anew() again", x.anew(), 0);
    s.due("there is room for acts", x.tear(1, 0), 3);
    s.says(17, "-2 likewise.");
    s.due("anew()", new FootNotes().anew(), -2);
    s.due("anew() without books", Towns.of(Towns.BARE).anew(), 0);
  }
}
