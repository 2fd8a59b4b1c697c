/** The boundary cases of what can hold together and what is to be dropped: term III, promises 33 to 39. */
final class HoldBoundaries {
  private final Sentences s;
  private final FootNotes none = new FootNotes();
  private final FootNotes bare = Towns.of(Towns.BARE);
  /** Nothing is asked of any page. */
  private final FootNotes free = Towns.of(Towns.BARE + "book pages 9 by 0;book pages 3 by 0;");
  /** A fact that denies itself. */
  private final FootNotes never = Towns.of(Towns.BOOK + "note 0 to 0 0 denies;fact 0;");
  /** 0 needs 1, which denies 2; 3 is the fact. */
  private final FootNotes x = Towns.ofPages(4, "note 0 to 0 1;note 1 to 0 2 denies;fact 3;");

  HoldBoundaries(Sentences s) { this.s = s; }

  void run() {
    hold();
    holds();
    ways();
    most();
    sure();
    loose();
    loosely();
  }

  private void hold() {
    s.says("III", "HOLD: FACTS do (torn out or not);");
    s.due("holds(8)", x.holds(8), 1);
    s.due("holds(0) without the fact", x.holds(0), 0);
    FootNotes y = Towns.ofPages(2, "note 0 to 0 1;note 1 to 0 0;fact 1;");
    s.due("holds(2), the fact leads to 0", y.holds(2), 0);
    y.tear(0, 1);
    s.due("holds(0), the fact torn out", y.holds(0), 0);
    s.due("holds(2), the fact torn out leads to none", y.holds(2), 1);
    s.due("holds(3), the fact torn out", y.holds(3), 1);
    s.says("III", "if a PAGE does, each PAGE to which its NOTES lead does,");
    s.due("holds(8 + 1)", x.holds(9), 0);
    s.due("holds(8 + 1 + 2)", x.holds(11), 1);
    s.due("holds(8 + 2), without who leads to it", x.holds(10), 1);
    s.due("holds(1), it leads to no page", Towns.ofPages(2, "note 0 to 0 2;").holds(1), 1);
    s.due("holds(1), one of two does not", Towns.ofPages(3, "note 0 to 0 1;note 0 to 0 2;").holds(3), 0);
    s.due("holds(1), it leads to itself", Towns.ofPages(1, "note 0 to 0 0;").holds(1), 1);
    s.says("III", "those that a NOTE denies do not.");
    s.due("holds(8 + 2 + 4)", x.holds(14), 0);
    s.due("holds(8 + 4), who denies it does not hold", x.holds(12), 1);
    s.due("holds(1), it denies itself", Towns.ofPages(1, "note 0 to 0 0 denies;").holds(1), 0);
    s.due("holds(0), it denies itself", Towns.ofPages(1, "note 0 to 0 0 denies;").holds(0), 1);
  }

  private void holds() {
    s.says(33, "HOLD (III): whether PAGES of a set (bits) can hold, all others not: 1, 0.");
    s.due("holds(0)", free.holds(0), 1);
    s.due("holds(4095)", free.holds(4095), 1);
    s.due("holds(2048)", free.holds(2048), 1);
    s.due("holds(1), the fact denies itself", never.holds(1), 0);
    s.due("holds(0), the fact must", never.holds(0), 0);
    s.due("holds(0) without books", bare.holds(0), 1);
    s.says(33, "-2: there is no such set, no TOWN.");
    noSet("holds", free::holds, 4096);
    noSet("holds", x::holds, 16);
    noSet("holds", bare::holds, 1);
    s.due("holds(0)", none.holds(0), -2);
  }

  private void noSet(String name, java.util.function.IntUnaryOperator asked, int beyond) {
    for (int set : new int[] {beyond, beyond + 1, -1, Integer.MIN_VALUE, Integer.MAX_VALUE}) s.due(name + "(" + set + ")", asked.applyAsInt(set), -2);
  }

  private void ways() {
    s.says(34, "In how many ways PAGES can hold.");
    s.due("ways() asked first", Towns.ofPages(2, "note 0 to 0 1;").ways(), 3);
    s.due("ways() of all", free.ways(), 4096);
    s.due("ways() of all again", free.ways(), 4096);
    s.due("ways() without books, none hold", bare.ways(), 1);
    s.due("ways() of none", never.ways(), 0);
    // with 3: none, 1, 2, 0 1
    s.due("ways()", x.ways(), 4);
    s.says(34, "-2: there is no TOWN.");
    s.due("ways()", none.ways(), -2);
  }

  private void most() {
    s.says(35, "The most PAGES that can.");
    s.due("most() asked first", Towns.ofPages(2, "note 0 to 0 1 denies;").most(), 1);
    s.due("most() of all", free.most(), 12);
    s.due("most()", x.most(), 3);
    s.due("most() without books", bare.most(), 0);
    s.due("most(), none but none", Towns.ofPages(1, "note 0 to 0 0 denies;").most(), 0);
    s.says(35, "NONE: there is no way;");
    s.due("most()", never.most(), -1);
    s.says(35, "-2 likewise.");
    s.due("most()", none.most(), -2);
    s.says(36, "Which, as bits: the least set of so many.");
    s.due("mostly() of all", free.mostly(), 4095);
    s.due("mostly()", x.mostly(), 11);
    s.due("mostly() without books", bare.mostly(), 0);
    FootNotes y = Towns.ofPages(3, "note 0 to 0 1 denies;note 1 to 0 2 denies;note 2 to 0 0 denies;");
    s.due("mostly(), of three of one page", y.mostly(), 1);
    FootNotes z = Towns.ofPages(3, "note 0 to 0 1 denies;note 0 to 0 2 denies;");
    s.due("mostly(), more though less would do", z.mostly(), 6);
    s.says(36, "NONE, -2 likewise.");
    s.due("mostly()", never.mostly(), -1);
    s.due("mostly()", none.mostly(), -2);
  }

  private void sure() {
    s.says(37, "PAGES that hold in all ways (what 0), in none (1), as bits;");
    s.due("sure(0) asked first", Towns.ofPages(2, "note 0 to 0 1;fact 0;").sure(0), 3);
    s.due("sure(0)", x.sure(0), 8);
    s.due("sure(1)", x.sure(1), 0);
    FootNotes y = Towns.ofPages(4, "note 3 to 0 0;note 0 to 0 1 denies;note 2 to 0 1;fact 3;");
    s.due("sure(0), by the fact", y.sure(0), 9);
    s.due("sure(1), by the fact", y.sure(1), 6);
    s.due("sure(0) of none", free.sure(0), 0);
    s.due("sure(1) of none", free.sure(1), 0);
    s.due("sure(1), it denies itself", Towns.ofPages(1, "note 0 to 0 0 denies;").sure(1), 1);
    s.due("sure(0) without books", bare.sure(0), 0);
    s.due("sure(1) without books", bare.sure(1), 0);
    s.says(37, "0 without ways.");
    s.due("sure(0)", never.sure(0), 0);
    s.due("sure(1)", never.sure(1), 0);
    s.says(37, "-2: there is no such what, no TOWN.");
    for (int what : new int[] {-1, 2, Integer.MIN_VALUE, Integer.MAX_VALUE}) {
      s.due("sure(" + what + ")", x.sure(what), -2);
      s.due("sure(" + what + ") without ways", never.sure(what), -2);
    }
    s.due("sure(0)", none.sure(0), -2);
    s.due("sure(1)", none.sure(1), -2);
  }

  private void loose() {
    s.says(38, "LOOSE: the fewest NOTES that are to be dropped so that all PAGES of a set can hold (others too).");
    s.due("loose(0)", x.loose(0), 0);
    s.due("loose(1), 1 holds too", x.loose(1), 0);
    s.due("loose(2), 0 holds too", Towns.ofPages(2, "note 1 to 0 0;").loose(2), 0);
    s.due("loose(4 + 2)", x.loose(6), 1);
    s.due("loose(15)", x.loose(15), 1);
    s.due("loose(4095), nothing to drop", free.loose(4095), 0);
    s.due("loose(0), the fact's denial", never.loose(0), 1);
    s.due("loose(0) without books", bare.loose(0), 0);
    FootNotes y = Towns.ofPages(2, "note 0 to 0 1 denies;".repeat(24));
    s.due("loose(3), all 24", y.loose(3), 24);
    s.due("loose(1)", y.loose(1), 0);
    FootNotes z = Towns.ofPages(3, "note 0 to 0 1;note 0 to 0 1 denies;note 0 to 0 1 denies;note 1 to 0 2 denies;fact 2;");
    s.due("loose(1), one note rather than three", z.loose(1), 1);
    s.due("loose(1 + 2), three", z.loose(3), 3);
    z.tear(0, 0);
    s.due("loose(1 + 2), notes that lead to none need no drop", z.loose(3), 1);
    s.says(38, "-2: there is no such set, no TOWN.");
    noSet("loose", free::loose, 4096);
    noSet("loose", x::loose, 16);
    noSet("loose", bare::loose, 1);
    s.due("loose(0)", none.loose(0), -2);
  }

  private void loosely() {
    s.says(39, "The least set of PAGES that can hold by so few (these, FACTS in it).");
    s.due("loosely(0), the fact", x.loosely(0), 8);
    s.due("loosely(1)", x.loosely(1), 11);
    s.due("loosely(2)", Towns.ofPages(2, "note 1 to 0 0;").loosely(2), 3);
    s.due("loosely(4 + 2)", x.loosely(6), 14);
    s.due("loosely(15)", x.loosely(15), 15);
    s.due("loosely(0)", free.loosely(0), 0);
    s.due("loosely(4095)", free.loosely(4095), 4095);
    s.due("loosely(0), the fact", never.loosely(0), 1);
    s.due("loosely(0) without books", bare.loosely(0), 0);
    FootNotes y = Towns.ofPages(3, "note 0 to 0 1;note 0 to 0 2;note 0 to 0 1 denies;note 0 to 0 2 denies;fact 0;");
    s.due("loosely(0), of four sets by two notes", y.loosely(0), 1);
    s.due("loosely(4), of two", y.loosely(4), 5);
    FootNotes z = Towns.ofPages(2, "note 0 to 0 1;fact 0;");
    z.tear(0, 0);
    s.due("loosely(0), the fact torn out", z.loosely(0), 1);
    s.says(39, "-2 likewise.");
    noSet("loosely", free::loosely, 4096);
    noSet("loosely", x::loosely, 16);
    noSet("loosely", bare::loosely, 1);
    s.due("loosely(0)", none.loosely(0), -2);
  }
}
