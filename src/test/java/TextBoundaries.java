/** The boundary cases of the tape and of what a town's text may be: term I, promises 1 to 5. */
final class TextBoundaries {
  private final Sentences s;

  TextBoundaries(Sentences s) { this.s = s; }

  void run() {
    use();
    lines();
    numbersOfLines();
    numbering();
    tokens();
    faults();
    faultKinds();
    newObject();
    feed();
    end();
    town();
    townRefused();
    fault();
  }

  private void stands(String text, int lines) {
    FootNotes x = new FootNotes();
    s.due("town() of " + text, Towns.tell(x, text), lines);
    s.due("fault(0) of " + text, x.fault(0), 0);
  }

  private void faulty(String text, int code, int place) {
    FootNotes x = new FootNotes();
    s.due("town() of " + text, Towns.tell(x, text), -4);
    s.due("fault(0) of " + text, x.fault(0), code);
    s.due("fault(1) of " + text, x.fault(1), place);
  }

  private void use() {
    s.says("use", "An object is used for at most 512 calls after it has been made; what later calls answer is free.");
    FootNotes x = new FootNotes();
    for (int call = 1; call <= 512; call += 2) {
      s.due("call " + call + ", feed", x.feed(0, 0, 0, 0, 0), 20);
      s.due("call " + (call + 1) + ", end", x.end(0), 0);
    }
  }

  private void lines() {
    s.says("I", "TOWN: {LINE ;}.");
    stands("", 0);
    stands(" \n", 0);
    stands(Towns.BARE, 1);
    stands(Towns.BOOK, 2);
    faulty(Towns.BARE.substring(0, 19), 1, 19);
    faulty(Towns.BOOK.substring(0, 37), 1, 37);
    faulty(Towns.BARE + "book pages 1 by 0 dead 0;", 1, 38);
    faulty(";", 1, 0);
    faulty(Towns.BARE + ";", 1, 20);
    s.says("I", "LINE: town opens N odds N | book pages N by S | note P to B N [denies] | fact P | dead S.");
    cutShort("", "town opens 1 odds 0");
    cutShort(Towns.BARE, "book pages 1 by 0");
    cutShort(Towns.BOOK, "note 0 to 0 0");
    cutShort(Towns.BOOK, "fact 0");
    cutShort(Towns.BARE, "dead 0");
    stands(Towns.BOOK + "note 0 to 0 0 denies;", 3);
    faulty(Towns.BOOK + "note 0 to 0 denies;", 1, 50);
    faulty(Towns.BOOK + "note 0 to 0 0 denies denies;", 1, 59);
    s.says("I", "town is the first LINE and no other:");
    faulty(Towns.BARE + Towns.BARE, 1, 20);
    for (String line : new String[] {"book pages 1 by 0;", "note 0 to 0 0;", "fact 0;", "dead 0;"}) {
      faulty(line, 1, 0);
      faulty(line + Towns.BARE, 1, 0);
    }
  }

  /** A line stands whole; cut short, a word too long, a word or number in the other's place, it does not. */
  private void cutShort(String ahead, String line) {
    int lines = ahead.length() - ahead.replace(";", "").length();
    stands(ahead + line + ";", lines + 1);
    String[] tokens = line.split(" ");
    int place = ahead.length();
    for (int i = 0; i < tokens.length; i++) {
      String sofar = ahead + String.join(" ", java.util.Arrays.copyOf(tokens, i));
      if (i > 0) {
        faulty(sofar + ";", 1, sofar.length());
        faulty(sofar, 1, sofar.length());
        sofar += " ";
      }
      boolean word = Character.isLetter(tokens[i].charAt(0));
      faulty(sofar + (word ? "0;" : "a;"), 1, place);
      if (word) faulty(sofar + tokens[i] + "s;", 1, place);
      if (word) faulty(sofar + "x" + tokens[i].substring(1) + ";", 1, place);
      place += tokens[i].length() + 1;
    }
    faulty(ahead + line + " 0;", 1, ahead.length() + line.length() + 1);
  }

  private void numbersOfLines() {
    s.says("I", "opens 1 .. 20");
    faulty("town opens 0 odds 0;", 2, 11);
    faulty("town opens 21 odds 0;", 2, 11);
    s.due("opens 1", Towns.of("town opens 1 odds 0;").count(4), 1);
    s.due("opens 20", Towns.of("town opens 20 odds 0;").count(4), 20);
    s.says("I", "odds 0 .. 100.");
    faulty("town opens 1 odds 101;", 2, 18);
    s.due("odds 0", Towns.of("town opens 1 odds 0;").count(5), 0);
    s.due("odds 100", Towns.of("town opens 1 odds 100;").count(5), 100);
    s.says("I", "pages 1 .. 9");
    faulty(Towns.BARE + "book pages 0 by 0;", 2, 31);
    faulty(Towns.BARE + "book pages 10 by 0;", 2, 31);
    s.due("pages 1", Towns.of(Towns.BARE + "book pages 1 by 0;").count(1), 1);
    s.due("pages 9", Towns.of(Towns.BARE + "book pages 9 by 0;").count(1), 9);
    s.says("I", "together 12 at most;");
    s.due("9 and 3", Towns.of(Towns.BARE + "book pages 9 by 0;book pages 3 by 0;").count(1), 12);
    faulty(Towns.BARE + "book pages 9 by 0;book pages 4 by 0;", 3, 49);
    faulty(Towns.BARE + "book pages 9 by 0;book pages 3 by 0;book pages 1 by 0;", 3, 67);
    s.says("I", "S a SCHOLAR 0 .. 4.");
    s.due("by 0", Towns.of(Towns.BARE + "book pages 1 by 0;").book(0, 0), 0);
    s.due("by 4", Towns.of(Towns.BARE + "book pages 1 by 4;dead 4;").book(0, 3), 1);
    faulty(Towns.BARE + "book pages 1 by 5;", 2, 36);
    faulty(Towns.BARE + "dead 5;", 2, 25);
    s.says("I", "P a PAGE,");
    faulty(Towns.BARE + "note 0 to 0 0;", 2, 25);
    faulty(Towns.BARE + "fact 0;", 2, 25);
    faulty(Towns.BOOK + "note 1 to 0 0;", 2, 43);
    faulty(Towns.BOOK + "fact 1;", 2, 43);
    stands(Towns.BARE + "book pages 9 by 0;book pages 3 by 1;note 11 to 0 0;fact 11;", 5);
    faulty(Towns.BARE + "book pages 9 by 0;book pages 3 by 1;note 12 to 0 0;", 2, 61);
    faulty(Towns.BARE + "book pages 9 by 0;book pages 3 by 1;fact 12;", 2, 61);
    s.says("I", "B a BOOK told ahead,");
    stands(Towns.BOOK + "book pages 1 by 0;note 0 to 1 0;", 4);
    faulty(Towns.BOOK + "note 0 to 1 0;", 2, 48);
    faulty(Towns.BOOK + "note 0 to 1 0;book pages 1 by 0;", 2, 48);
    s.says("I", "N a LEAF 0 .. 29 (there need not be one).");
    s.due("leaf 0", Towns.of(Towns.BOOK + "note 0 to 0 0;").leads(0), 0);
    s.due("leaf 1, where there is none", Towns.of(Towns.BOOK + "note 0 to 0 1;").leads(0), -1);
    s.due("leaf 29", Towns.of(Towns.BOOK + "note 0 to 0 29;").note(0, 2), 29);
    faulty(Towns.BOOK + "note 0 to 0 30;", 2, 50);
    s.says("I", "fact: no FACT yet.");
    stands(Towns.BOOK + "book pages 1 by 0;fact 1;fact 0;", 5);
    faulty(Towns.BOOK + "fact 0;fact 0;", 2, 50);
    s.says("I", "dead: none yet.");
    stands(Towns.BARE + "dead 4;dead 3;dead 2;dead 1;dead 0;", 6);
    faulty(Towns.BARE + "dead 4;dead 0;dead 4;", 2, 39);
  }

  private void numbering() {
    s.says("I", "PAGES 0 .. 11 are numbered through, BOOK by BOOK, as they stand on its LEAVES (each BOOK's from 0 on);");
    FootNotes x = Towns.of(Towns.BARE + "book pages 2 by 0;book pages 9 by 1;book pages 1 by 2;");
    for (int p = 0; p < 12; p++) {
      int book = p < 2 ? 0 : p < 11 ? 1 : 2;
      int leaf = p < 2 ? p : p < 11 ? p - 2 : 0;
      s.due("book of page " + p, x.page(p, 0), book);
      s.due("leaf of page " + p, x.page(p, 1), leaf);
      s.due("page there", x.leaf(book, leaf), p);
    }
    s.due("page(12, 0)", x.page(12, 0), -2);
    s.says("I", "BOOKS 0 .. 4, NOTES 0 .. 23 are numbered as they stand.");
    StringBuilder text = new StringBuilder(Towns.BARE);
    for (int b = 0; b < 5; b++) text.append("book pages 1 by ").append(4 - b).append(";");
    for (int n = 0; n < 24; n++) text.append("note ").append(n % 5).append(" to ").append(n % 3).append(" ").append(23 - n).append(";");
    FootNotes y = Towns.of(text.toString());
    for (int b = 0; b < 5; b++) s.due("scholar of book " + b, y.book(b, 0), 4 - b);
    s.due("book(5, 0)", y.book(5, 0), -2);
    for (int n = 0; n < 24; n++) {
      s.due("page of note " + n, y.note(n, 0), n % 5);
      s.due("book of note " + n, y.note(n, 1), n % 3);
      s.due("leaf of note " + n, y.note(n, 2), 23 - n);
    }
    s.due("note(24, 0)", y.note(24, 0), -2);
  }

  private void tokens() {
    s.says("block", "TOKENS, blanks (32, 10) aside,");
    stands(" \n town\nopens \n 1 odds\n\n0 ; \n", 1);
    stands("town opens1odds0;book pages1by0;note0to0 0denies;fact0;dead0;", 5);
    for (char c : new char[] {0, 9, 11, 12, 13, 31, 33, 127, 138, 160, 255}) {
      faulty("town opens 1 odds 0" + c + ";", 1, 19);
      faulty(c + Towns.BARE, 1, 0);
      faulty(Towns.BARE + c, 1, 20);
    }
    s.says("block", "the longest:");
    faulty("townopens 1 odds 0;", 1, 0);
    faulty("town opens 1oddsby 0;", 1, 12);
    faulty("to wn opens 1 odds 0;", 1, 0);
    faulty("town opens 1 0 odds 0;", 1, 13);
    faulty("town opens 1\n0 odds 0;", 1, 13);
    s.due("opens 12", Towns.of("town opens 12 odds 0;").count(4), 12);
    faulty("town opens 111 odds 0;", 2, 11);
    s.says("block", "words (a .. z),");
    for (char c : new char[] {'a', 'z'}) faulty(Towns.BARE + "dead" + c + " 0;", 1, 20);
    for (char c : new char[] {'`', '{', 'A', 'Z', '_', (char) ('a' + 128)}) faulty(Towns.BARE + "dead" + c + " 0;", 1, 24);
    for (String w : new String[] {"TOWN", "Town", "towN"}) faulty(w + " opens 1 odds 0;", 1, 0);
    s.says("block", "numbers (digits),");
    for (char c : new char[] {'/', ':', '-', '.', (char) ('0' + 128)}) faulty(Towns.BARE + "dead 4" + c + ";", 1, 26);
    for (char c : new char[] {'/', ':', '-', '+', '.', '*'}) faulty(Towns.BARE + "dead " + c + "4;", 1, 25);
    for (int n = 0; n < 5; n++) s.due("by " + n, Towns.of(Towns.BARE + "book pages 1 by " + n + ";").book(0, 0), n);
    for (int n = 5; n < 10; n++) faulty(Towns.BARE + "dead " + n + ";", 2, 25);
    stands(Towns.BARE + "dead 0000000000000000000000000000000004;", 2);
    for (String n : new String[] {"256", "65536", "1000001", "2147483648", "4294967296", "4294967300", "18446744073709551616", "18446744073709551620",
      "99999999999999999999999999999999999999999"}) faulty(Towns.BARE + "dead " + n + ";", 2, 25);
    s.says("block", "the sign ; .");
    for (char c : new char[] {',', '.', ':', '<', (char) (';' + 128)}) faulty("town opens 1 odds 0" + c, 1, 19);
    faulty("town opens 1 odds 0;;", 1, 20);
    faulty("town; opens 1 odds 0;", 1, 4);
  }

  private void faults() {
    s.says("block", "FAULTS, the first by its place");
    faulty("town opens 21 odds 101;", 2, 11);
    faulty("town opens 0 ?", 2, 11);
    faulty("town ? opens 0", 1, 5);
    faulty(Towns.BOOK + "fact 9 ? 9;", 2, 43);
    faulty(Towns.BARE + "book pages 1 by 0;".repeat(5) + "book pages x", 3, 110);
    faulty(Towns.BARE + "book pages 9 by 0;book page 4", 1, 43);
    faulty(Towns.BARE + "book pages 9 by 0;book pages 4 by 9;", 3, 49);
    faulty(Towns.BOOK + "note 0 to 0 0;".repeat(24) + "note 9", 3, 374);
    faulty(Towns.BOOK + "note 1 to 1 30 ?", 2, 43);
    s.says("block", "(a TOKEN's first byte; the end's)");
    faulty(" \n towns opens 1", 1, 3);
    faulty("town \n 12 ", 1, 7);
    faulty("town opens   2111 odds 0;", 2, 13);
    faulty("town", 1, 4);
    faulty("town opens 1", 1, 12);
    faulty("town opens 1 \n \n", 1, 16);
    faulty("t", 1, 0);
    faulty(" ".repeat(1381) + Towns.BARE.substring(0, 19), 1, 1400);
    faulty(" ".repeat(1399) + ";", 1, 1399);
    s.says("block", "of one place the least:");
    faulty(Towns.BARE + "book pages 9 by 0;book pages 10 by 0;", 2, 49);
    faulty(Towns.BARE + "book pages 9 by 0;book pages 0 by 0;", 2, 49);
    faulty(Towns.BARE + "book pages 9 by 0;book pages x by 0;", 1, 49);
    faulty(Towns.BARE + "book pages 9 by 0;book pages 99999999999 by 0;", 2, 49);
  }

  private void faultKinds() {
    s.says("block", "1 a TOKEN that is none, or can't stand there (town behind the first LINE, another word ahead of it).");
    faulty("?", 1, 0);
    faulty("1", 1, 0);
    faulty("odds", 1, 0);
    faulty("denies", 1, 0);
    faulty("book", 1, 0);
    faulty(Towns.BARE + "town", 1, 20);
    faulty(Towns.BARE + "opens", 1, 20);
    faulty(Towns.BARE + "denies", 1, 20);
    faulty(Towns.BARE + "0", 1, 20);
    faulty(Towns.BARE + "?", 1, 20);
    faulty(Towns.BOOK + "fact fact;", 1, 43);
    s.says("block", "2 a number out of its bounds, not as said.");
    faulty("town opens 21 odds 0;", 2, 11);
    faulty(Towns.BOOK + "note 0 to 0 30;", 2, 50);
    faulty(Towns.BOOK + "note 0 to 1 0;", 2, 48);
    faulty(Towns.BOOK + "fact 0;fact 0;", 2, 50);
    s.says("block", "3 a 6th book, 25th note, at its word;");
    stands(Towns.BARE + "book pages 1 by 0;".repeat(5), 6);
    faulty(Towns.BARE + "book pages 1 by 0;".repeat(6), 3, 110);
    faulty(Towns.BARE + "book pages 1 by 0;".repeat(5) + "book", 3, 110);
    faulty(Towns.BARE + "book pages 1 by 0;".repeat(5) + "books", 1, 110);
    stands(Towns.BOOK + "note 0 to 0 0;".repeat(24), 26);
    faulty(Towns.BOOK + "note 0 to 0 0;".repeat(25), 3, 374);
    faulty(Towns.BOOK + "note 0 to 0 0;".repeat(24) + "note", 3, 374);
    stands(Towns.BOOK + "note 0 to 0 0;".repeat(24) + "fact 0;dead 0;book pages 1 by 0;", 29);
    s.says("block", "pages 1 .. 9, but together above 12.");
    faulty(Towns.BARE + "book pages 4 by 0;book pages 9 by 0;", 3, 49);
    faulty(Towns.BARE + "book pages 9 by 0;book pages 9 by 0;", 3, 49);
    faulty(Towns.BARE + "book pages 6 by 0;book pages 6 by 0;book pages 1", 3, 67);
  }

  private void newObject() {
    s.says(1, "No TOWN.");
    FootNotes x = new FootNotes();
    for (int what = 0; what <= 9; what++) s.due("count(" + what + ")", x.count(what), 0);
    s.due("rings()", x.rings(), -2);
    s.due("page(0, 0)", x.page(0, 0), -2);
    s.due("holds(0)", x.holds(0), -2);
    s.due("town() of an empty tape", x.town(), 0);
    s.due("rings() then", x.rings(), -2);
  }

  private void feed() {
    s.says(2, "Twenty bytes come behind the TAPE, four of each number, the highest first: how many it has;");
    FootNotes x = new FootNotes();
    s.due("feed", x.feed(0x746f776e, 0x206f7065, 0x6e732031, 0x20202020, 0x20202020), 20);
    s.due("feed behind", x.feed(0x206f6464, 0x73203130, 0x303b2020, 0x20202020, 0x0a0a0a0a), 40);
    s.due("town()", x.town(), 1);
    s.due("odds", x.count(5), 100);
    for (int at = 0; at < 20; at++) oneByte(at);
    s.says(2, "NONE, and none come, if it would have more than 1,400.");
    FootNotes y = new FootNotes();
    for (int n = 20; n <= 1400; n += 20) s.due("feed to " + n, y.feed(0x20202020, 0x20202020, 0x20202020, 0x20202020, 0x20202020), n);
    s.due("feed to 1420", y.feed(-1, -1, -1, -1, -1), -1);
    s.due("bytes", y.count(8), 1400);
    for (int n : new int[] {1399, 1390, 1381}) {
      y.end(n);
      s.due("feed to " + (n + 20), y.feed(-1, -1, -1, -1, -1), -1);
      s.due("bytes", y.count(8), n);
    }
    y.end(1380);
    s.due("feed to 1400", y.feed(0x20202020, 0x20202020, 0x20202020, 0x20202020, 0x20202020), 1400);
    s.due("blanks alone, so none of the others came", y.town(), 0);
  }

  /** Twenty blanks but for one byte of 255, which is then the fault's place. */
  private void oneByte(int at) {
    int[] n = {0x20202020, 0x20202020, 0x20202020, 0x20202020, 0x20202020};
    n[at / 4] |= 255 << 24 - 8 * (at % 4);
    FootNotes x = new FootNotes();
    x.feed(n[0], n[1], n[2], n[3], n[4]);
    s.due("town() with a strange byte", x.town(), -4);
    s.due("its place", x.fault(1), at);
  }

  private void end() {
    s.says(3, "The TAPE has its first n bytes alone: n;");
    FootNotes x = new FootNotes();
    s.due("end(0) of an empty tape", x.end(0), 0);
    Towns.feedAll(x, Towns.BARE + "?");
    s.due("end(40), all", x.end(40), 40);
    s.due("bytes", x.count(8), 40);
    s.due("end(20)", x.end(20), 20);
    s.due("bytes", x.count(8), 20);
    s.due("the first ones", x.town(), 1);
    Towns.feedAll(x, "????");
    s.due("end(0)", x.end(0), 0);
    s.due("a feed comes behind what is left", Towns.feedAll(x, Towns.BARE), 20);
    s.due("town()", x.town(), 1);
    s.says(3, "NONE, and nothing happens, if it has not so many, or n is below 0.");
    s.due("end(1) of an empty tape", x.end(1), -1);
    Towns.feedAll(x, Towns.BARE);
    for (int n : new int[] {21, 40, 1400, Integer.MAX_VALUE, -1, Integer.MIN_VALUE}) {
      s.due("end(" + n + ")", x.end(n), -1);
      s.due("bytes", x.count(8), 20);
    }
    s.due("town()", x.town(), 1);
  }

  private void town() {
    FootNotes x = new FootNotes();
    s.says(4, "The TAPE (empty then) is the TOWN");
    s.due("a full tape", Towns.tell(x, " ".repeat(1400 - 38) + Towns.BOOK), 2);
    s.due("bytes", x.count(8), 0);
    s.due("books", x.count(0), 1);
    s.says(4, "(in place of another),");
    Towns.tell(x, "town opens 20 odds 100;book pages 9 by 4;note 8 to 0 8 denies;fact 8;dead 4;");
    Towns.tell(x, "town opens 2 odds 3;book pages 2 by 1;note 1 to 0 0;");
    int[] counts = {1, 2, 1, 0, 2, 3, 0, 3, 0, 0};
    for (int what = 0; what < counts.length; what++) s.due("count(" + what + ")", x.count(what), counts[what]);
    s.due("book(0, 3), none is dead", x.book(0, 3), 0);
    s.due("note(0, 3), none denies", x.note(0, 3), 0);
    s.due("page(2, 0)", x.page(2, 0), -2);
    s.says(4, "nothing done to its books:");
    x.edition(0, 0);
    x.tear(0, 1);
    x.misprint(0, 7);
    Towns.tell(x, "town opens 2 odds 3;book pages 2 by 1;note 1 to 0 0;");
    s.due("acts", x.count(6), 0);
    s.due("leaves", x.book(0, 1), 2);
    s.due("leaf(0, 1)", x.leaf(0, 1), 1);
    s.due("leads(0)", x.leads(0), 0);
    s.due("undo()", x.undo(), -5);
    s.says(4, "how many LINES (0: there is none then).");
    s.due("24 notes", Towns.tell(x, Towns.BOOK + "note 0 to 0 0;".repeat(24) + "fact 0;dead 0;dead 1;dead 2;dead 3;dead 4;"), 32);
    s.due("count(7)", x.count(7), 32);
    Towns.tell(x, "town opens 20 odds 100;book pages 9 by 4;note 8 to 0 8 denies;fact 8;dead 4;");
    s.due("nothing", x.town(), 0);
    for (int what = 0; what <= 9; what++) s.due("count(" + what + ") then", x.count(what), 0);
    s.due("astray() then", x.astray(), -2);
    s.due("leaf(0, 0) then", x.leaf(0, 0), -2);
  }

  private void townRefused() {
    s.says(4, "-4: a FAULT (all stays).");
    FootNotes x = Towns.ofPages(3, "note 0 to 0 1;note 1 to 0 2;fact 2;");
    x.tear(0, 2);
    x.misprint(0, 9);
    x.image(1);
    x.edition(0, 0);
    x.row(2, 0, 1);
    s.due("a fault behind books and notes", Towns.tell(x, "town opens 9 odds 9;book pages 1 by 4;note 0 to 0 0;fact 0;dead 4;?"), -4);
    int[] counts = {1, 3, 2, 1, 1, 0, 3, 5, 67, 1};
    for (int what = 0; what < counts.length; what++) s.due("count(" + what + ")", x.count(what), counts[what]);
    s.due("leaf(0, 3)", x.leaf(0, 3), -4);
    s.due("note(0, 2)", x.note(0, 2), 9);
    s.due("town() again", x.town(), -4);
    s.due("fault(1) again", x.fault(1), 66);
    s.due("undo()", x.undo(), 2);
    s.due("back(1)", x.back(1), 0);
    s.due("end(66), without its fault", x.end(66), 66);
    s.due("town() of what stayed", x.town(), 5);
    s.due("opens", x.count(4), 9);
  }

  private void fault() {
    FootNotes x = new FootNotes();
    s.says(5, "NONE for another what, and ahead of any (what 1).");
    s.due("fault(1) ahead of any", x.fault(1), -1);
    for (int what : new int[] {-1, 2, 3, Integer.MIN_VALUE, Integer.MAX_VALUE}) s.due("fault(" + what + ") ahead of any", x.fault(what), -1);
    Towns.tell(x, "?");
    for (int what : new int[] {-1, 2, 3, Integer.MIN_VALUE, Integer.MAX_VALUE}) s.due("fault(" + what + ")", x.fault(what), -1);
    s.says(5, "Of the latest town(), what 0: its FAULT, 0 without,");
    s.due("fault(0) ahead of any", new FootNotes().fault(0), 0);
    s.due("fault(0)", x.fault(0), 1);
    Towns.tell(x, "town opens 0");
    s.due("fault(0) of the latest", x.fault(0), 2);
    Towns.tell(x, Towns.BOOK);
    s.due("fault(0) without", x.fault(0), 0);
    x.image(0);
    Towns.tell(x, Towns.BARE + "book pages 1 by 0;".repeat(6));
    x.back(0);
    s.due("fault(0), whatever has been gone back to", x.fault(0), 3);
    x.end(0);
    x.town();
    s.due("fault(0) without a town", x.fault(0), 0);
    s.says(5, "1: its place (NONE without).");
    Towns.tell(x, "?");
    s.due("fault(1) at the first byte", x.fault(1), 0);
    Towns.tell(x, "town opens 0");
    s.due("fault(1)", x.fault(1), 11);
    Towns.tell(x, Towns.BARE);
    s.due("fault(1) without", x.fault(1), -1);
    Towns.tell(x, "");
    s.due("fault(1) without a town", x.fault(1), -1);
  }
}
