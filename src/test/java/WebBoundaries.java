import java.util.function.IntUnaryOperator;

/** The boundary cases of reaching, rings, ways to facts and cuts: promises 18 to 32. */
final class WebBoundaries {
  /** 0 to 1 to 2 to 3, which is the fact. */
  private static final String CHAIN = "note 0 to 0 1;note 1 to 0 2;note 2 to 0 3;fact 3;";
  /** 3 to 2 to 1 to 0, which is the fact. */
  private static final String CHAIN_BACK = "note 3 to 0 2;note 2 to 0 1;note 1 to 0 0;fact 0;";
  /** Rings 0 1 and 2 3, the first leads to the second. */
  private static final String RINGS = "note 0 to 0 1;note 1 to 0 0;note 1 to 0 2;note 2 to 0 3;note 3 to 0 2;";

  private final Sentences s;
  private final FootNotes none = new FootNotes();
  private final FootNotes bare = Towns.of(Towns.BARE);
  private final FootNotes single = Towns.of(Towns.BOOK);
  private final FootNotes itself = Towns.of(Towns.BOOK + "note 0 to 0 0;");
  private final FootNotes chain = Towns.ofPages(4, CHAIN);
  private final FootNotes chainBack = Towns.ofPages(4, CHAIN_BACK);
  private final FootNotes rings = Towns.ofPages(4, RINGS);
  private final FootNotes longRing = Towns.of(longRingText());

  WebBoundaries(Sentences s) { this.s = s; }

  /** All 12 pages on one ring, page 11 the fact. */
  private static String longRingText() {
    StringBuilder b = new StringBuilder(Towns.BARE + "book pages 9 by 0;book pages 3 by 1;");
    for (int p = 0; p < 12; p++) {
      int to = (p + 1) % 12;
      b.append("note ").append(p).append(" to ").append(to / 9).append(" ").append(to % 9).append(";");
    }
    return b + "fact 11;";
  }

  void run() {
    reach();
    upon();
    ringsAndRounds();
    ring();
    way();
    step();
    depth();
    grounded();
    needs();
    loss();
    key();
    cut();
    torn();
  }

  private void each(String name, IntUnaryOperator asked, int... want) {
    for (int p = 0; p < want.length; p++) s.due(name + "(" + p + ")", asked.applyAsInt(p), want[p]);
  }

  /** Asked of a town of four pages. */
  private void noPage(String name, IntUnaryOperator asked, IntUnaryOperator withoutBooks, IntUnaryOperator withoutTown) {
    for (int p : new int[] {-1, 4, 12, 31, 32, Integer.MIN_VALUE, Integer.MAX_VALUE}) s.due(name + "(" + p + ")", asked.applyAsInt(p), -2);
    s.due(name + "(0) without books", withoutBooks.applyAsInt(0), -2);
    s.due(name + "(0) without a town", withoutTown.applyAsInt(0), -2);
  }

  private void reach() {
    s.says(18, "PAGES to which NOTES lead from a PAGE, one behind the other");
    each("reach", chain::reach, 14, 12, 8, 0);
    each("reach back", chainBack::reach, 0, 1, 3, 7);
    s.due("reach, by denials too", Towns.ofPages(2, "note 0 to 0 1 denies;").reach(0), 2);
    FootNotes x = Towns.ofPages(4, CHAIN);
    x.tear(0, 2);
    each("reach, a page torn out between", x::reach, 2, 0, 0, 0);
    s.says(18, "(itself, just if round),");
    s.due("reach by itself", itself.reach(0), 1);
    s.due("reach of a page alone", single.reach(0), 0);
    each("reach", rings::reach, 15, 15, 12, 12);
    s.says(18, "as bits.");
    for (int p = 0; p < 12; p++) s.due("reach(" + p + ") of twelve", longRing.reach(p), 4095);
    s.says(18, "-2: there is no such PAGE.");
    noPage("reach", chain::reach, bare::reach, none::reach);
  }

  private void upon() {
    s.says(19, "PAGES from which one comes to it so, as bits.");
    each("upon", chain::upon, 0, 1, 3, 7);
    each("upon", rings::upon, 3, 3, 15, 15);
    s.due("upon by itself", itself.upon(0), 1);
    s.due("upon of a page alone", single.upon(0), 0);
    for (int p = 0; p < 12; p++) s.due("upon(" + p + ") of twelve", longRing.upon(p), 4095);
    FootNotes x = Towns.ofPages(4, CHAIN);
    x.tear(0, 2);
    each("upon, a page torn out between", x::upon, 0, 1, 0, 0);
    s.says(19, "-2 likewise.");
    noPage("upon", chain::upon, bare::upon, none::upon);
  }

  private void ringsAndRounds() {
    s.says(20, "PAGES from which one comes back to themselves, as bits.");
    s.due("rings() of none", chain.rings(), 0);
    s.due("rings() of itself", itself.rings(), 1);
    s.due("rings()", rings.rings(), 15);
    s.due("rings() of twelve", longRing.rings(), 4095);
    s.due("rings() without books", bare.rings(), 0);
    s.says(20, "-2: there is no TOWN.");
    s.due("rings()", none.rings(), -2);
    s.says(21, "The fewest NOTES from a PAGE back to itself.");
    s.due("round(0) by itself", itself.round(0), 1);
    each("round", rings::round, 2, 2, 2, 2);
    for (int p = 0; p < 12; p++) s.due("round(" + p + ") of twelve", longRing.round(p), 12);
    s.due("round(0), of two the shorter", Towns.ofPages(3, "note 0 to 0 1;note 1 to 0 2;note 2 to 0 0;note 1 to 0 0;").round(0), 2);
    s.says(21, "NONE: it can't be;");
    each("round", chain::round, -1, -1, -1, -1);
    FootNotes x = Towns.ofPages(4, RINGS);
    x.tear(0, 1);
    each("round, a page torn out", x::round, -1, -1, 2, 2);
    s.says(21, "-2: there is no such PAGE.");
    noPage("round", chain::round, bare::round, none::round);
  }

  private void ring() {
    s.says(22, "PAGES on one ring with a PAGE (each comes to the other; itself), as bits;");
    each("ring", rings::ring, 3, 3, 12, 12);
    s.due("ring(0) of itself", itself.ring(0), 1);
    for (int p = 0; p < 12; p++) s.due("ring(" + p + ") of twelve", longRing.ring(p), 4095);
    s.says(22, "0: it is on none.");
    each("ring", chain::ring, 0, 0, 0, 0);
    s.due("ring of a page alone", single.ring(0), 0);
    s.due("ring(1), between two rings", Towns.ofPages(3, "note 0 to 0 0;note 0 to 0 1;note 1 to 0 2;note 2 to 0 2;").ring(1), 0);
    s.says(22, "-2 likewise.");
    noPage("ring", chain::ring, bare::ring, none::ring);
  }

  private void way() {
    s.says(23, "WAY: the fewest NOTES from a PAGE to a FACT (0: it is one).");
    each("way", chain::way, 3, 2, 1, 0);
    each("way back", chainBack::way, 0, 1, 2, 3);
    for (int p = 0; p < 12; p++) s.due("way(" + p + ") of twelve", longRing.way(p), 11 - p);
    FootNotes x = Towns.ofPages(3, "note 0 to 0 1;note 1 to 0 2;note 0 to 0 2;fact 2;fact 1;");
    each("way, a fact that leads to a fact", x::way, 1, 0, 0);
    s.says(23, "NONE: it can't be,");
    each("way without facts", rings::way, -1, -1, -1, -1);
    s.due("way(1) away from the fact", Towns.ofPages(2, "note 0 to 0 1;fact 0;").way(1), -1);
    FootNotes y = Towns.ofPages(4, CHAIN);
    y.tear(0, 3);
    each("way to a fact that is torn out", y::way, -1, -1, -1, -1);
    s.says(23, "it is torn out;");
    FootNotes z = Towns.ofPages(4, CHAIN);
    z.tear(0, 0);
    each("way", z::way, -1, 2, 1, 0);
    z.tear(0, 3);
    s.due("way(3), a fact that is torn out", z.way(3), -1);
    s.says(23, "-2 likewise.");
    noPage("way", chain::way, bare::way, none::way);
  }

  private void step() {
    s.says(24, "PAGE i (from 0: itself) of the first such WAY (the least row).");
    each("step(0, i)", i -> chain.step(0, i), 0, 1, 2, 3);
    each("step(3, i) back", i -> chainBack.step(3, i), 3, 2, 1, 0, -1);
    for (int i = 0; i < 12; i++) s.due("step(0, " + i + ") of twelve", longRing.step(0, i), i);
    s.due("step(3, 0), a fact", chain.step(3, 0), 3);
    FootNotes x = Towns.ofPages(7, "note 0 to 0 3;note 0 to 0 2;note 0 to 0 1;note 1 to 0 4;note 2 to 0 6;note 3 to 0 5;note 2 to 0 5;fact 5;fact 6;");
    each("step(0, i), of three", i -> x.step(0, i), 0, 2, 5, -1);
    s.says(24, "NONE: there is none such;");
    for (int i : new int[] {4, -1, 12, Integer.MAX_VALUE, Integer.MIN_VALUE}) s.due("step(0, " + i + ")", chain.step(0, i), -1);
    s.due("step(3, 1), beyond a fact", chain.step(3, 1), -1);
    s.due("step(0, 0) without a way", rings.step(0, 0), -1);
    FootNotes y = Towns.ofPages(4, CHAIN);
    y.tear(0, 0);
    y.tear(0, 3);
    s.due("step(0, 0), torn out", y.step(0, 0), -1);
    s.due("step(3, 0), a fact torn out", y.step(3, 0), -1);
    s.says(24, "-2 likewise.");
    noPage("step", p -> chain.step(p, 0), p -> bare.step(p, 0), p -> none.step(p, 0));
    s.due("step(4, -1)", chain.step(4, -1), -2);
  }

  private void depth() {
    s.says(25, "DEPTH: the most of the fewest NOTES from a PAGE to those it reaches (itself too, if round).");
    each("depth", chain::depth, 3, 2, 1, 0);
    s.due("depth(0) by itself", itself.depth(0), 1);
    each("depth", rings::depth, 3, 2, 2, 2);
    for (int p = 0; p < 12; p++) s.due("depth(" + p + ") of twelve", longRing.depth(p), 12);
    s.due("depth(0), a shorter way", Towns.ofPages(3, "note 0 to 0 1;note 1 to 0 2;note 0 to 0 2;").depth(0), 1);
    s.says(25, "0: it reaches none;");
    s.due("depth(0) of a page alone", single.depth(0), 0);
    s.due("depth(3)", chain.depth(3), 0);
    FootNotes x = Towns.ofPages(4, CHAIN);
    x.tear(0, 0);
    s.due("depth(0), torn out", x.depth(0), 0);
    s.says(25, "-2: there is no such PAGE.");
    noPage("depth", chain::depth, bare::depth, none::depth);
    s.says(26, "The PAGE with the most, the first of several.");
    s.due("deepest()", chain.deepest(), 0);
    s.due("deepest() by itself", itself.deepest(), 0);
    s.due("deepest() of twelve that are alike", longRing.deepest(), 0);
    s.due("deepest(), a later one", Towns.ofPages(4, "note 0 to 0 1;note 2 to 0 3;note 3 to 0 0;").deepest(), 2);
    s.due("deepest(), the last", Towns.ofPages(4, "note 3 to 0 0;").deepest(), 3);
    s.due("deepest(), two of three", Towns.ofPages(4, "note 0 to 0 3;note 1 to 0 0;note 2 to 0 0;").deepest(), 1);
    s.says(26, "NONE: none reaches any;");
    s.due("deepest()", single.deepest(), -1);
    s.due("deepest() without books", bare.deepest(), -1);
    s.says(26, "-2: there is no TOWN.");
    s.due("deepest()", none.deepest(), -2);
  }

  private void grounded() {
    s.says(27, "GROUNDED: PAGES from which there is a WAY, as bits.");
    s.due("grounded()", chain.grounded(), 15);
    s.due("grounded() of twelve", longRing.grounded(), 4095);
    s.due("grounded() without facts", rings.grounded(), 0);
    s.due("grounded() without books", bare.grounded(), 0);
    s.due("grounded(), a fact alone", Towns.ofPages(2, "fact 1;").grounded(), 2);
    FootNotes x = Towns.ofPages(4, CHAIN);
    x.tear(0, 1);
    s.due("grounded(), one torn out", x.grounded(), 12);
    x.tear(0, 3);
    s.due("grounded(), the fact torn out", x.grounded(), 0);
    s.says(27, "-2: there is no TOWN.");
    s.due("grounded()", none.grounded(), -2);
  }

  private void needs() {
    s.says(28, "PAGES on all WAYS from a PAGE to FACTS, whatever their length (itself, too), as bits;");
    each("needs", chain::needs, 15, 14, 12, 8);
    each("needs back", chainBack::needs, 1, 3, 7, 15);
    for (int p = 0; p < 12; p++) s.due("needs(" + p + ") of twelve", longRing.needs(p), 4095 & -(1 << p));
    FootNotes x = Towns.ofPages(5, "note 0 to 0 1;note 1 to 0 3;note 0 to 0 2;note 2 to 0 4;note 4 to 0 3;fact 3;");
    each("needs, a long way beside a short one", x::needs, 1 + 8, 2 + 8, 4 + 8 + 16, 8, 8 + 16);
    FootNotes y = Towns.ofPages(3, "note 0 to 0 1;note 0 to 0 2;fact 1;fact 2;");
    s.due("needs(0), two facts", y.needs(0), 1);
    FootNotes z = Towns.ofPages(3, "note 0 to 0 1;note 1 to 0 2;fact 1;fact 2;");
    s.due("needs(0), a fact behind a fact", z.needs(0), 3);
    s.due("needs(1), a fact that leads on", z.needs(1), 2);
    s.says(28, "0: there are none.");
    s.due("needs(0)", rings.needs(0), 0);
    FootNotes w = Towns.ofPages(4, CHAIN);
    w.tear(0, 0);
    s.due("needs(0), torn out", w.needs(0), 0);
    w.tear(0, 3);
    s.due("needs(1), the fact torn out", w.needs(1), 0);
    s.due("needs(3), the fact torn out", w.needs(3), 0);
    s.says(28, "-2: there is no such PAGE.");
    noPage("needs", chain::needs, bare::needs, none::needs);
  }

  private void loss() {
    s.says(29, "How many PAGES are not GROUNDED any more, if one were torn out (it aside).");
    each("loss", chain::loss, 0, 1, 2, 3);
    each("loss back", chainBack::loss, 3, 2, 1, 0);
    for (int p = 0; p < 12; p++) s.due("loss(" + p + ") of twelve", longRing.loss(p), p);
    each("loss without facts", rings::loss, 0, 0, 0, 0);
    FootNotes x = Towns.ofPages(3, "note 0 to 0 1;note 0 to 0 2;fact 1;fact 2;");
    each("loss, two facts", x::loss, 0, 0, 0);
    FootNotes y = Towns.ofPages(4, CHAIN);
    y.tear(0, 2);
    each("loss, one torn out already", y::loss, 0, 0, 0, 0);
    s.due("nothing is torn out", chain.page(3, 1), 3);
    s.says(29, "-2 likewise.");
    noPage("loss", chain::loss, bare::loss, none::loss);
  }

  private void key() {
    s.says(30, "KEY: the PAGE by which that is most, if any, the first of several.");
    s.due("key()", chain.key(), 3);
    s.due("key() of twelve", longRing.key(), 11);
    s.due("key(), two alike", Towns.ofPages(4, "note 1 to 0 0;note 3 to 0 2;fact 0;fact 2;").key(), 0);
    s.due("key(), two alike behind a lesser",
        Towns.ofPages(8, "note 1 to 0 0;note 3 to 0 2;note 4 to 0 2;note 6 to 0 5;note 7 to 0 5;fact 0;fact 2;fact 5;").key(), 2);
    s.due("key() by one page", Towns.ofPages(2, "note 0 to 0 1;fact 1;").key(), 1);
    s.says(30, "NONE: none;");
    s.due("key() without facts", rings.key(), -1);
    s.due("key(), a fact alone", Towns.ofPages(1, "note 0 to 0 0;fact 0;").key(), -1);
    s.due("key(), none alone fells any", Towns.ofPages(3, "note 0 to 0 1;note 0 to 0 2;fact 1;fact 2;").key(), -1);
    s.due("key() without books", bare.key(), -1);
    s.says(30, "-2: there is no TOWN.");
    s.due("key()", none.key(), -2);
  }

  private void cut() {
    s.says(31, "CUT: the fewest PAGES (not itself; FACTS, too) that are to be torn out so that there is no WAY from a PAGE.");
    each("cut", chain::cut, 1, 1, 1);
    s.due("cut(0), by its fact", Towns.ofPages(2, "note 0 to 0 1;fact 1;").cut(0), 1);
    s.due("cut(0) without a way", rings.cut(0), 0);
    s.due("cut(0) of a page alone", single.cut(0), 0);
    s.due("cut(0) without a way, notes and a fact elsewhere", Towns.ofPages(3, "note 0 to 0 1;fact 2;").cut(0), 0);
    StringBuilder all = new StringBuilder(Towns.BARE + "book pages 8 by 0;book pages 4 by 0;");
    for (int p = 1; p < 12; p++) all.append("note 0 to ").append(p / 8).append(" ").append(p % 8).append(";fact ").append(p).append(";");
    FootNotes x = Towns.of(all.toString());
    s.due("cut(0), eleven facts", x.cut(0), 11);
    s.due("torn(0), eleven facts", x.torn(0), 4094);
    x.tear(0, 1);
    s.due("cut(0), one torn out already", x.cut(0), 10);
    FootNotes y = Towns.ofPages(4, CHAIN);
    y.tear(0, 0);
    s.due("cut(0), torn out already", y.cut(0), 0);
    s.says(31, "NONE: it is a FACT;");
    s.due("cut(3)", chain.cut(3), -1);
    y.tear(0, 3);
    s.due("cut(3), torn out", y.cut(3), -1);
    s.says(31, "-2: there is no such PAGE.");
    noPage("cut", chain::cut, bare::cut, none::cut);
  }

  private void torn() {
    s.says(32, "Which, as bits: the least set of so few.");
    each("torn", chain::torn, 2, 4, 8);
    each("torn back", chainBack::torn, -1, 1, 1, 1);
    s.due("torn(0), none is needed", rings.torn(0), 0);
    s.due("torn(0), none is needed, notes and a fact elsewhere", Towns.ofPages(3, "note 0 to 0 1;fact 2;").torn(0), 0);
    FootNotes x = Towns.ofPages(4, "note 3 to 0 0;note 3 to 0 1;note 0 to 0 2;note 1 to 0 2;fact 2;");
    s.due("torn(3), one though two would be less", x.torn(3), 4);
    FootNotes y = Towns.ofPages(5, "note 4 to 0 0;note 4 to 0 1;note 0 to 0 2;note 1 to 0 3;fact 2;fact 3;");
    s.due("torn(4), of four that do", y.torn(4), 3);
    for (int p = 0; p < 11; p++) s.due("torn(" + p + ") of twelve", longRing.torn(p), 1 << p + 1);
    s.due("nothing is torn out", y.count(6), 0);
    s.says(32, "NONE, -2 likewise.");
    s.due("torn(3)", chain.torn(3), -1);
    FootNotes z = Towns.ofPages(4, CHAIN);
    z.tear(0, 3);
    s.due("torn(3), torn out", z.torn(3), -1);
    s.due("torn(0) then", z.torn(0), 0);
    noPage("torn", chain::torn, bare::torn, none::torn);
  }
}
