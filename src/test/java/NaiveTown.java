import java.util.ArrayDeque;
import java.util.ArrayList;
import java.util.Arrays;
import java.util.Deque;
import java.util.List;
import java.util.TreeSet;
import java.util.regex.Matcher;
import java.util.regex.Pattern;

/**
 * The document told a second time, by the slowest and plainest means (all orders, all sets, all
 * walks), so that random runs can be held against FootNotes. It shares no code with it.
 */
public final class NaiveTown {
  private static final int NONE = -1;

  private record Note(int page, int book, int first, boolean denies) { }

  /** All of a town; acts replace it by a changed copy, the older ones lie beneath. */
  private static final class Told {
    int opens, odds, lines;
    List<Integer> scholars = new ArrayList<>();
    List<Integer> sizes = new ArrayList<>();
    List<Integer> pageBook = new ArrayList<>();
    List<Note> notes = new ArrayList<>();
    TreeSet<Integer> facts = new TreeSet<>();
    TreeSet<Integer> dead = new TreeSet<>();
  }

  /** Leaves: a page, -3 blank, -4 torn; says: each note's leaf now. */
  private record Now(List<List<Integer>> leaves, List<Integer> says) {
    Now copy() {
      List<List<Integer>> copied = new ArrayList<>();
      for (List<Integer> book : leaves) copied.add(new ArrayList<>(book));
      return new Now(copied, new ArrayList<>(says));
    }
  }

  private record Image(Told told, List<Now> states) { }

  private static final class Bad extends RuntimeException {
    final int code, place;
    private static final long serialVersionUID = 1L;
    Bad(int code, int place) { super(null, null, false, false); this.code = code; this.place = place; }
  }

  private List<Integer> tape = new ArrayList<>();
  private int faultCode = 0, faultPlace = NONE;
  private Told told = null;
  private List<Now> states = new ArrayList<>();
  private final Image[] images = new Image[3];
  private final long[][] rows = new long[4][];
  private final int[] widths = new int[4];

  // ---- tape, town

  public int feed(int a, int b, int c, int d, int e) {
    if (tape.size() + 20 > 1400) return NONE;
    for (int n : new int[] {a, b, c, d, e}) for (int s = 24; s >= 0; s -= 8) tape.add((n >>> s) & 255);
    return tape.size();
  }

  public int end(int n) {
    if (n < 0 || n > tape.size()) return NONE;
    tape = new ArrayList<>(tape.subList(0, n));
    return n;
  }

  private record Token(String text, int place) { }

  private static List<Token> tokens(List<Integer> tape) {
    StringBuilder b = new StringBuilder();
    for (int x : tape) b.append((char) x);
    Matcher m = Pattern.compile("[a-z]+|[0-9]+|;|[^ \\n]", Pattern.DOTALL).matcher(b);
    List<Token> out = new ArrayList<>();
    while (m.find()) out.add(new Token(m.group(), m.start()));
    out.add(new Token("", tape.size()));
    return out;
  }

  private List<Token> toks;
  private int at;

  private void word(String w) {
    if (!toks.get(at).text.equals(w)) throw new Bad(1, toks.get(at).place);
    at++;
  }

  private int num(int low, int high) {
    Token t = toks.get(at);
    if (!t.text.matches("[0-9]+")) throw new Bad(1, t.place);
    java.math.BigInteger v = new java.math.BigInteger(t.text);
    if (v.compareTo(java.math.BigInteger.valueOf(low)) < 0 || v.compareTo(java.math.BigInteger.valueOf(high)) > 0) throw new Bad(2, t.place);
    at++;
    return v.intValue();
  }

  private Told parse() {
    toks = tokens(tape);
    at = 0;
    Told r = new Told();
    while (!toks.get(at).text.isEmpty()) {
      Token t = toks.get(at);
      if (r.lines == 0) {
        word("town"); word("opens"); r.opens = num(1, 20); word("odds"); r.odds = num(0, 100);
      } else if (t.text.equals("book")) {
        if (r.scholars.size() == 5) throw new Bad(3, t.place);
        word("book"); word("pages");
        int place = toks.get(at).place;
        int n = num(1, 9);
        if (r.pageBook.size() + n > 12) throw new Bad(3, place);
        word("by");
        int s = num(0, 4);
        for (int i = 0; i < n; i++) r.pageBook.add(r.scholars.size());
        r.scholars.add(s);
        r.sizes.add(n);
      } else if (t.text.equals("note")) {
        if (r.notes.size() == 24) throw new Bad(3, t.place);
        word("note");
        int p = num(0, r.pageBook.size() - 1);
        word("to");
        int b = num(0, r.scholars.size() - 1);
        int n = num(0, 29);
        boolean d = toks.get(at).text.equals("denies");
        if (d) word("denies");
        r.notes.add(new Note(p, b, n, d));
      } else if (t.text.equals("fact") || t.text.equals("dead")) {
        boolean fact = t.text.equals("fact");
        word(t.text);
        int place = toks.get(at).place;
        int n = num(0, fact ? r.pageBook.size() - 1 : 4);
        if (!(fact ? r.facts : r.dead).add(n)) throw new Bad(2, place);
      } else throw new Bad(1, t.place);
      word(";");
      r.lines++;
    }
    return r;
  }

  private static Now atFirst(Told t) {
    Now n = new Now(new ArrayList<>(), new ArrayList<>());
    int p = 0;
    for (int size : t.sizes) {
      List<Integer> book = new ArrayList<>();
      for (int i = 0; i < size; i++) book.add(p++);
      n.leaves.add(book);
    }
    for (Note x : t.notes) n.says.add(x.first);
    return n;
  }

  public int town() {
    Told r;
    try {
      r = parse();
    } catch (Bad b) {
      faultCode = b.code;
      faultPlace = b.place;
      return -4;
    }
    faultCode = 0;
    faultPlace = NONE;
    tape = new ArrayList<>();
    told = r.lines == 0 ? null : r;
    states = new ArrayList<>();
    if (told != null) states.add(atFirst(told));
    return r.lines;
  }

  public int fault(int what) { return what == 0 ? faultCode : what == 1 ? faultPlace : NONE; }

  // ---- small questions

  private boolean isPage(int p) { return told != null && p >= 0 && p < told.pageBook.size(); }
  private boolean isBook(int b) { return told != null && b >= 0 && b < told.scholars.size(); }
  private boolean isNote(int n) { return told != null && n >= 0 && n < told.notes.size(); }
  private int pages() { return told == null ? 0 : told.pageBook.size(); }
  private Now now() { return states.get(states.size() - 1); }

  private static int leafOf(Now s, int book, int page) { return s.leaves.get(book).indexOf(page); }
  private boolean gone(Now s, int p) { return leafOf(s, told.pageBook.get(p), p) < 0; }

  private int target(Now s, int note) {
    Note n = told.notes.get(note);
    List<Integer> book = s.leaves.get(n.book);
    int leaf = s.says.get(note);
    if (gone(s, n.page) || leaf >= book.size()) return NONE;
    return Math.max(NONE, book.get(leaf));
  }

  public int page(int page, int what) {
    if (!isPage(page) || what < 0 || what > 3) return -2;
    int book = told.pageBook.get(page);
    if (what == 0) return book;
    if (what == 1) return leafOf(now(), book, page);
    if (what == 2) return (int) told.notes.stream().filter(n -> n.page == page).count();
    return told.facts.contains(page) ? 1 : 0;
  }

  public int book(int book, int what) {
    if (!isBook(book) || what < 0 || what > 3) return -2;
    if (what == 0) return told.scholars.get(book);
    if (what == 1) return now().leaves.get(book).size();
    if (what == 2) return told.sizes.get(book);
    return told.dead.contains(told.scholars.get(book)) ? 1 : 0;
  }

  public int leaf(int book, int leaf) {
    if (!isBook(book)) return -2;
    List<Integer> b = now().leaves.get(book);
    return leaf < 0 || leaf >= b.size() ? NONE : b.get(leaf);
  }

  public int note(int note, int what) {
    if (!isNote(note) || what < 0 || what > 3) return -2;
    Note n = told.notes.get(note);
    return what == 0 ? n.page : what == 1 ? n.book : what == 2 ? now().says.get(note) : n.denies ? 1 : 0;
  }

  public int leads(int note) { return isNote(note) ? target(now(), note) : -2; }
  public int meant(int note) { return isNote(note) ? target(states.get(0), note) : -2; }

  public int astray() {
    if (told == null) return -2;
    int bits = 0;
    for (int n = 0; n < told.notes.size(); n++) if (leads(n) != meant(n)) bits |= 1 << n;
    return bits;
  }

  // ---- acts

  private boolean full() { return states.size() > 40; }

  public int edition(int book, int leaf) {
    if (!isBook(book) || leaf < 0 || leaf > now().leaves.get(book).size()) return -2;
    if (full() || now().leaves.get(book).size() == 30) return -5;
    Now s = now().copy();
    s.leaves.get(book).add(leaf, -3);
    states.add(s);
    return s.leaves.get(book).size();
  }

  public int tear(int book, int leaf) {
    if (!isBook(book) || leaf < 0 || leaf >= now().leaves.get(book).size()) return -2;
    if (full() || now().leaves.get(book).get(leaf) == -4) return -5;
    Now s = now().copy();
    int was = s.leaves.get(book).set(leaf, -4);
    states.add(s);
    return was;
  }

  public int misprint(int note, int leaf) {
    if (!isNote(note) || leaf < 0 || leaf > 29) return -2;
    if (full()) return -5;
    Now s = now().copy();
    int was = s.says.set(note, leaf);
    states.add(s);
    return was;
  }

  public int undo() {
    if (told == null) return -2;
    if (states.size() == 1) return -5;
    states.remove(states.size() - 1);
    return states.size() - 1;
  }

  public int anew() {
    if (told == null) return -2;
    int were = states.size() - 1;
    states = new ArrayList<>(states.subList(0, 1));
    return were;
  }

  // ---- graph

  private static final int FAR = 1000000;

  /** Fewest notes (one at least) between all pages, without the pages of a set. */
  private int[][] dist(Now s, int without) {
    int n = pages();
    int[][] d = new int[n][n];
    for (int[] r : d) Arrays.fill(r, FAR);
    for (int i = 0; i < told.notes.size(); i++) {
      int from = told.notes.get(i).page, to = target(s, i);
      if (to >= 0 && (without >> from & 1) == 0 && (without >> to & 1) == 0) d[from][to] = 1;
    }
    for (int k = 0; k < n; k++) for (int i = 0; i < n; i++) for (int j = 0; j < n; j++)
      d[i][j] = Math.min(d[i][j], d[i][k] + d[k][j]);
    return d;
  }

  private int wayLen(Now s, int[][] d, int without, int page) {
    if (gone(s, page) || (without >> page & 1) == 1) return NONE;
    if (told.facts.contains(page)) return 0;
    int best = FAR;
    for (int f : told.facts) best = Math.min(best, d[page][f]);
    return best >= FAR ? NONE : best;
  }

  private int groundedSet(Now s, int without) {
    int[][] d = dist(s, without);
    int bits = 0;
    for (int p = 0; p < pages(); p++) if (wayLen(s, d, without, p) >= 0) bits |= 1 << p;
    return bits;
  }

  public int reach(int page) {
    if (!isPage(page)) return -2;
    int bits = 0;
    int[][] d = dist(now(), 0);
    for (int q = 0; q < pages(); q++) if (d[page][q] < FAR) bits |= 1 << q;
    return bits;
  }

  public int upon(int page) {
    if (!isPage(page)) return -2;
    int bits = 0;
    int[][] d = dist(now(), 0);
    for (int q = 0; q < pages(); q++) if (d[q][page] < FAR) bits |= 1 << q;
    return bits;
  }

  public int rings() {
    if (told == null) return -2;
    int bits = 0;
    for (int p = 0; p < pages(); p++) if (round(p) > 0) bits |= 1 << p;
    return bits;
  }

  public int round(int page) {
    if (!isPage(page)) return -2;
    int r = dist(now(), 0)[page][page];
    return r >= FAR ? NONE : r;
  }

  public int ring(int page) {
    if (!isPage(page)) return -2;
    int bits = 0;
    int[][] d = dist(now(), 0);
    for (int q = 0; q < pages(); q++) if (d[page][q] + d[q][page] < FAR) bits |= 1 << q;
    return bits;
  }

  public int way(int page) { return isPage(page) ? wayLen(now(), dist(now(), 0), 0, page) : -2; }

  /** All walks of so many notes that end on a fact: the least row. */
  private List<Integer> leastWalk(int page, int length) {
    if (length == 0) return told.facts.contains(page) ? new ArrayList<>(List.of(page)) : null;
    TreeSet<Integer> behind = new TreeSet<>();
    for (int i = 0; i < told.notes.size(); i++)
      if (told.notes.get(i).page == page && leads(i) >= 0) behind.add(leads(i));
    for (int q : behind) {
      List<Integer> tail = leastWalk(q, length - 1);
      if (tail != null) { tail.add(0, page); return tail; }
    }
    return null;
  }

  public int step(int page, int i) {
    int w = way(page);
    if (w == -2) return -2;
    if (w < 0 || i < 0 || i > w) return NONE;
    return leastWalk(page, w).get(i);
  }

  public int depth(int page) {
    if (!isPage(page)) return -2;
    int most = 0;
    int[][] d = dist(now(), 0);
    for (int q = 0; q < pages(); q++) if (d[page][q] < FAR) most = Math.max(most, d[page][q]);
    return most;
  }

  public int deepest() {
    if (told == null) return -2;
    int best = NONE;
    for (int p = pages() - 1; p >= 0; p--)
      if (depth(p) > 0 && (best < 0 || depth(p) >= depth(best))) best = p;
    return best;
  }

  public int grounded() { return told == null ? -2 : groundedSet(now(), 0); }

  /** By all simple ways: what is on each of them. */
  public int needs(int page) {
    if (!isPage(page)) return -2;
    if (way(page) < 0) return 0;
    return commonOfWays(page, 0, dist(now(), 0));
  }

  private int commonOfWays(int page, int seen, int[][] d) {
    int here = seen | 1 << page;
    if (told.facts.contains(page)) return here;
    int common = ~0;
    for (int q = 0; q < pages(); q++)
      if (d[page][q] == 1 && (here >> q & 1) == 0) common &= commonOfWays(q, here, d);
    return common;
  }

  public int loss(int page) {
    if (!isPage(page)) return -2;
    return Integer.bitCount(grounded() & ~groundedSet(now(), 1 << page) & ~(1 << page));
  }

  public int key() {
    if (told == null) return -2;
    int best = NONE;
    for (int p = pages() - 1; p >= 0; p--)
      if (loss(p) > 0 && (best < 0 || loss(p) >= loss(best))) best = p;
    return best;
  }

  public int cut(int page) { int t = torn(page); return t < 0 ? t : Integer.bitCount(t); }

  public int torn(int page) {
    if (!isPage(page)) return -2;
    if (told.facts.contains(page)) return NONE;
    for (int size = 0; size <= pages(); size++)
      for (int set = 0; set < 1 << pages(); set++)
        if (Integer.bitCount(set) == size && (set >> page & 1) == 0
            && (groundedSet(now(), set) >> page & 1) == 0) return set;
    throw new IllegalStateException("tearing out all facts must do");
  }

  // ---- hold

  private int brokenBy(int set) {
    int n = 0;
    for (int i = 0; i < told.notes.size(); i++) {
      int t = leads(i);
      if (t < 0 || (set >> told.notes.get(i).page & 1) == 0) continue;
      boolean in = (set >> t & 1) == 1;
      if (in == told.notes.get(i).denies) n++;
    }
    return n;
  }

  private boolean hasFacts(int set) {
    for (int f : told.facts) if ((set >> f & 1) == 0) return false;
    return true;
  }

  private boolean badSet(int set) { return told == null || set < 0 || set >= 1 << pages(); }

  private List<Integer> good() {
    List<Integer> out = new ArrayList<>();
    for (int s = 0; s < 1 << pages(); s++) if (hasFacts(s) && brokenBy(s) == 0) out.add(s);
    return out;
  }

  public int holds(int set) { return badSet(set) ? -2 : hasFacts(set) && brokenBy(set) == 0 ? 1 : 0; }
  public int ways() { return told == null ? -2 : good().size(); }
  public int most() { return told == null ? -2 : good().stream().mapToInt(Integer::bitCount).max().orElse(NONE); }

  public int mostly() {
    if (told == null) return -2;
    int m = most();
    return good().stream().filter(s -> Integer.bitCount(s) == m).findFirst().orElse(NONE);
  }

  public int sure(int what) {
    if (told == null || what < 0 || what > 1) return -2;
    List<Integer> g = good();
    if (g.isEmpty()) return 0;
    int all = (1 << pages()) - 1, any = 0;
    for (int s : g) { all &= s; any |= s; }
    return what == 0 ? all : ((1 << pages()) - 1) & ~any;
  }

  private int[] loosest(int set) {
    int[] best = {FAR, NONE};
    for (int s = 0; s < 1 << pages(); s++)
      if ((s & set) == set && hasFacts(s) && brokenBy(s) < best[0]) best = new int[] {brokenBy(s), s};
    return best;
  }

  public int loose(int set) { return badSet(set) ? -2 : loosest(set)[0]; }
  public int loosely(int set) { return badSet(set) ? -2 : loosest(set)[1]; }

  // ---- turns

  /** Bellman and Ford over all leaves, with every opening as an edge. */
  private int turns(int page, int other) {
    Now s = now();
    List<int[]> edges = new ArrayList<>();
    int books = told.scholars.size();
    for (int b = 0; b < books; b++)
      for (int l = 0; l < s.leaves.get(b).size(); l++) {
        int u = b * 100 + l;
        for (int c = 0; c < books; c++) edges.add(new int[] {u, c * 100, told.opens});
        if (l > 0) { edges.add(new int[] {u, u - 1, 1}); edges.add(new int[] {u - 1, u, 1}); }
      }
    for (int i = 0; i < told.notes.size(); i++)
      if (target(s, i) >= 0) edges.add(new int[] {spot(s, told.notes.get(i).page), spot(s, target(s, i)), 1});
    int[] d = new int[600];
    Arrays.fill(d, FAR);
    d[spot(s, page)] = 0;
    for (boolean changed = true; changed;) {
      changed = false;
      for (int[] e : edges) if (d[e[0]] + e[2] < d[e[1]]) { d[e[1]] = d[e[0]] + e[2]; changed = true; }
    }
    return d[spot(s, other)];
  }

  private int spot(Now s, int page) { int b = told.pageBook.get(page); return b * 100 + leafOf(s, b, page); }

  public int leaves(int page, int other) {
    if (!isPage(page) || !isPage(other)) return -2;
    return gone(now(), page) || gone(now(), other) ? NONE : turns(page, other);
  }

  private int[][] table;

  /** The answer that says why not, or 0; then the table of turns stands, the start last. */
  private int trip(int slot, int page) {
    if (slot < 0 || slot > 3 || !isPage(page)) return -2;
    if (rows[slot] == null) return -6;
    for (long v : rows[slot]) if (v < 0 || v >= pages()) return -2;
    if (gone(now(), page)) return NONE;
    for (long v : rows[slot]) if (gone(now(), (int) v)) return NONE;
    int n = rows[slot].length;
    if (n > 8) return -2;
    table = new int[n + 1][n];
    for (int i = 0; i <= n; i++) for (int j = 0; j < n; j++)
      table[i][j] = turns(i == n ? page : (int) rows[slot][i], (int) rows[slot][j]);
    return 0;
  }

  private int bestCost;
  private List<Integer> bestOrder;

  private void tryOrders(int at, int set, int cost, Deque<Integer> sofar) {
    if (bestOrder != null && cost > bestCost) return;
    if (set == 0) {
      if (bestOrder == null || cost < bestCost) { bestCost = cost; bestOrder = new ArrayList<>(sofar); }
      return;
    }
    for (int j = 0; j < table[0].length; j++)
      if ((set >> j & 1) == 1) {
        sofar.addLast(j);
        tryOrders(j, set & ~(1 << j), cost + table[at][j], sofar);
        sofar.removeLast();
      }
  }

  private int costOf(int set) {
    bestOrder = null;
    tryOrders(table.length - 1, set, 0, new ArrayDeque<>());
    return bestCost;
  }

  public int reads(int slot, int page) {
    int t = trip(slot, page);
    return t != 0 ? t : costOf((1 << rows[slot].length) - 1);
  }

  public int order(int slot, int page, int i) {
    int t = trip(slot, page);
    if (t != 0) return t;
    costOf((1 << rows[slot].length) - 1);
    return i < 0 || i >= bestOrder.size() ? NONE : (int) rows[slot][bestOrder.get(i)];
  }

  private int[] fairest(int slot) {
    int all = (1 << rows[slot].length) - 1;
    int[] costs = new int[all + 1];
    for (int s = 0; s <= all; s++) costs[s] = costOf(s);
    int[] best = {FAR, NONE};
    for (int s = 0; s <= all; s++) {
      int more = Math.max(costs[s], costs[all - s]);
      if (more < best[0]) best = new int[] {more, s};
    }
    return best;
  }

  public int shares(int slot, int page) { int t = trip(slot, page); return t != 0 ? t : fairest(slot)[0]; }
  public int first(int slot, int page) { int t = trip(slot, page); return t != 0 ? t : fairest(slot)[1]; }

  // ---- orders of books

  private int sendBest, sendCount;
  private List<Integer> sendOrder;

  private void permute(List<Integer> sofar) {
    int n = told.scholars.size();
    if (sofar.size() == n) {
      int cost = 0;
      for (int i = 0; i < told.notes.size(); i++) {
        if (leads(i) < 0) continue;
        int from = told.pageBook.get(told.notes.get(i).page), to = told.pageBook.get(leads(i));
        if (sofar.indexOf(to) > sofar.indexOf(from)) cost++;
      }
      if (sendOrder == null || cost < sendBest) { sendBest = cost; sendCount = 0; sendOrder = new ArrayList<>(sofar); }
      if (cost == sendBest) sendCount++;
      return;
    }
    for (int b = 0; b < n; b++)
      if (!sofar.contains(b)) {
        sofar.add(b);
        permute(sofar);
        sofar.remove(sofar.size() - 1);
      }
  }

  private void findOrders() { sendOrder = null; sendCount = 0; permute(new ArrayList<>()); }

  public int sends() { if (told == null) return -2; findOrders(); return sendBest; }
  public int orders() { if (told == null) return -2; findOrders(); return sendCount; }

  public int earliest(int i) {
    if (told == null) return -2;
    findOrders();
    return i < 0 || i >= sendOrder.size() ? NONE : sendOrder.get(i);
  }

  // ---- worth

  private List<Integer> worths(int n) {
    List<Integer> w = new ArrayList<>();
    for (int p = 0; p < pages(); p++) w.add(1000);
    for (int r = 0; r < n; r++) {
      List<Integer> v = new ArrayList<>(w);
      for (int p = 0; p < pages(); p++) {
        List<Integer> to = new ArrayList<>();
        for (int i = 0; i < told.notes.size(); i++) if (told.notes.get(i).page == p && leads(i) >= 0) to.add(leads(i));
        for (int q : to) {
          int part = w.get(p) / to.size();
          v.set(q, v.get(q) + part);
          v.set(p, v.get(p) - part);
        }
      }
      w = v;
    }
    return w;
  }

  public int worth(int page, int n) { return !isPage(page) || n < 0 || n > 40 ? -2 : worths(n).get(page); }

  public int rest() {
    if (told == null) return -2;
    for (int n = 1; n <= 40; n++) if (worths(n).equals(worths(n - 1))) return n;
    return NONE;
  }

  public int saint(int n) {
    if (told == null || n < 0 || n > 40) return -2;
    List<Integer> w = worths(n);
    return w.isEmpty() ? NONE : w.indexOf(w.stream().max(Integer::compare).get());
  }

  // ---- meeting

  private int[] meeting(int page, int other) {
    int[][] d = dist(now(), 0);
    d[page][page] = 0;
    d[other][other] = 0;
    int[] best = {0, NONE, NONE};
    for (int q = 0; q < pages(); q++) {
      int sum = d[page][q] + d[other][q];
      if (sum >= FAR) continue;
      best[0] |= 1 << q;
      if (best[1] < 0 || sum < best[1]) { best[1] = sum; best[2] = q; }
    }
    return best;
  }

  private boolean badPair(int a, int b) { return !isPage(a) || !isPage(b) || a == b; }
  public int meets(int page, int other) { return badPair(page, other) ? -2 : meeting(page, other)[0]; }
  public int nearest(int page, int other) { return badPair(page, other) ? -2 : meeting(page, other)[1]; }
  public int third(int page, int other) { return badPair(page, other) ? -2 : meeting(page, other)[2]; }

  // ---- scholars

  private int scholarOfPage(int p) { return told.scholars.get(told.pageBook.get(p)); }

  public int cited(int scholar) {
    if (told == null || scholar < 0 || scholar > 4) return -2;
    int n = 0;
    for (int i = 0; i < told.notes.size(); i++) if (leads(i) >= 0 && scholarOfPage(leads(i)) == scholar) n++;
    return n;
  }

  public int famous(int dead) {
    if (told == null || dead < 0 || dead > 1) return -2;
    int best = NONE, most = 0;
    for (int s = 0; s < 5; s++)
      if ((dead == 0 || told.dead.contains(s)) && cited(s) > most) { best = s; most = cited(s); }
    return best;
  }

  public int quotes(int scholar, int other) {
    if (told == null || scholar < 0 || scholar > 4 || other < 0 || other > 4) return -2;
    int n = 0;
    for (int i = 0; i < told.notes.size(); i++)
      if (leads(i) >= 0 && scholarOfPage(leads(i)) == other && scholarOfPage(told.notes.get(i).page) == scholar) n++;
    return n;
  }

  // ---- draws

  private boolean badSeed(int seed) { return told == null || seed < 0 || seed > 2000000000; }

  private int draw(int seed) {
    java.math.BigInteger x = java.math.BigInteger.valueOf(seed);
    int bits = 0;
    for (int i = 0; i < told.notes.size(); i++) {
      x = x.multiply(java.math.BigInteger.valueOf(1103515245)).add(java.math.BigInteger.valueOf(12345))
          .mod(java.math.BigInteger.valueOf(2147483648L));
      if (x.longValue() / 65536 % 100 < told.odds) bits |= 1 << i;
    }
    return bits;
  }

  private int groundedAfter(int seed) {
    Now s = now().copy();
    int bits = draw(seed);
    for (int i = 0; i < s.says.size(); i++) if ((bits >> i & 1) == 1) s.says.set(i, s.says.get(i) + 1);
    return groundedSet(s, 0);
  }

  public int drawn(int seed) { return badSeed(seed) ? -2 : draw(seed); }
  public int shaken(int seed) { return badSeed(seed) ? -2 : Integer.bitCount(groundedAfter(seed)); }

  public int years(int seed, int n, int page) {
    if (badSeed(seed) || n < 1 || n > 20 || !isPage(page)) return -2;
    int sum = 0;
    for (int i = 0; i < n; i++) sum += groundedAfter(seed + i) >> page & 1;
    return sum;
  }

  // ---- counts, images, slots

  public int count(int what) {
    if (what < 0 || what > 9) return NONE;
    if (what == 8) return tape.size();
    if (what == 9) return (int) Arrays.stream(rows).filter(r -> r != null).count();
    if (told == null) return 0;
    return new int[] {told.scholars.size(), pages(), told.notes.size(), told.facts.size(), told.opens,
        told.odds, states.size() - 1, told.lines}[what];
  }

  public int image(int k) {
    if (k < 0 || k > 2) return -2;
    images[k] = new Image(told, new ArrayList<>(states));
    return 0;
  }

  public int back(int k) {
    if (k < 0 || k > 2) return -2;
    if (images[k] == null) return -6;
    told = images[k].told;
    states = new ArrayList<>(images[k].states);
    return 0;
  }

  public int row(int slot, int width, int n) {
    if (slot < 0 || slot > 3 || width < 0 || width > 3 || n > 60) return -2;
    if (n < 0) return -3;
    rows[slot] = new long[n];
    widths[slot] = width;
    return 0;
  }

  public int write(int slot, int i, long v) {
    if (slot < 0 || slot > 3) return -2;
    if (rows[slot] == null) return -6;
    if (i < 0 || i >= rows[slot].length) return -7;
    int unused = 64 - (8 << widths[slot]);
    rows[slot][i] = v << unused >>> unused;
    return 0;
  }

  public int paste(int slot, int i, int to, int k, int n) {
    if (slot < 0 || slot > 3 || to < 0 || to > 3) return -2;
    if (rows[slot] == null || rows[to] == null) return -6;
    if (widths[slot] != widths[to]) return -8;
    if (i < 0 || k < 0 || n < 0 || (long) i + n > rows[slot].length || (long) k + n > rows[to].length) return -7;
    long[] kept = rows[slot].clone();
    for (int j = 0; j < n; j++) rows[to][k + j] = kept[i + j];
    return 0;
  }
}
