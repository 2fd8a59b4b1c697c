import java.util.Arrays;

/**
 * Footnotes to footnotes: a town told as a text, of books by scholars, pages, and notes that send
 * on to a leaf of a book. The public methods look at their arguments and ask the classes inside,
 * which hold the state and the searches.
 */
public final class FootNotes {
    public static final int NONE = -1;

    private static final int NO_SUCH = -2;
    private static final int BLANK = -3;
    private static final int BELOW_ZERO = -3;
    private static final int TORN_OUT = -4;
    private static final int FAULTY = -4;
    private static final int REFUSED = -5;
    private static final int NOTHING = -6;
    private static final int BEYOND = -7;
    private static final int UNLIKE = -8;

    private static final int TAPE_LIMIT = 1400;
    private static final int FEED_BYTES = 20;
    private static final int BOOK_LIMIT = 5;
    private static final int PAGE_LIMIT = 12;
    private static final int NOTE_LIMIT = 24;
    private static final int LEAF_LIMIT = 30;
    private static final int SCHOLARS = 5;
    private static final int ACT_LIMIT = 40;
    private static final int IMAGES = 3;
    private static final int SLOTS = 4;
    private static final int WIDTHS = 4;
    private static final int ROW_LIMIT = 60;
    private static final int READ_LIMIT = 8;
    private static final int ROUND_LIMIT = 40;
    private static final int YEAR_LIMIT = 20;
    private static final int SEED_LIMIT = 2000000000;

    private final Reader reader = new Reader();
    private final Text text = new Text();
    private final Shelf shelf = new Shelf();
    private final Text[] imageTexts = new Text[IMAGES];
    private final Shelf[] imageShelves = new Shelf[IMAGES];
    private final boolean[] imageKept = new boolean[IMAGES];
    private final Row[] rows = new Row[SLOTS];
    private final Web web = new Web();
    private final Web shakenWeb = new Web();
    private final Faith faith = new Faith();
    private final Tour tour = new Tour();
    private final Precedence precedence = new Precedence();
    private final Ledger ledger = new Ledger();

    public FootNotes() {
        for (int k = 0; k < IMAGES; k++) {
            imageTexts[k] = new Text();
            imageShelves[k] = new Shelf();
        }
        for (int slot = 0; slot < SLOTS; slot++) {
            rows[slot] = new Row();
        }
    }

    // ---- the tape and the town

    public int feed(int a, int b, int c, int d, int e) {
        Tape tape = reader.tape;
        if (tape.size + FEED_BYTES > TAPE_LIMIT) {
            return NONE;
        }
        tape.put(a);
        tape.put(b);
        tape.put(c);
        tape.put(d);
        tape.put(e);
        return tape.size;
    }

    public int end(int n) {
        if (n < 0 || n > reader.tape.size) {
            return NONE;
        }
        reader.tape.size = n;
        return n;
    }

    public int town() {
        reader.readLines();
        if (reader.fault != 0) {
            return FAULTY;
        }
        reader.tape.size = 0;
        text.copyFrom(reader.told);
        shelf.lay(text);
        settle();
        return text.lines;
    }

    public int fault(int what) {
        if (what == 0) {
            return reader.fault;
        }
        return what == 1 ? reader.faultPlace : NONE;
    }

    /** The web is woven when something changes, so that questions need not do it. */
    private void settle() {
        web.weave(text, shelf, 0);
    }

    private boolean noTown() {
        return text.lines == 0;
    }

    private static int bit(boolean is) {
        return is ? 1 : 0;
    }

    // ---- what is told of pages, books and notes

    public int page(int page, int what) {
        if (!text.hasPage(page)) {
            return NO_SUCH;
        }
        switch (what) {
            case 0:
                return text.bookOf[page];
            case 1:
                return web.place[page] < 0 ? NONE : web.place[page] % LEAF_LIMIT;
            case 2:
                return text.notesOn(page);
            case 3:
                return text.facts >> page & 1;
            default:
                return NO_SUCH;
        }
    }

    public int book(int book, int what) {
        if (!text.hasBook(book)) {
            return NO_SUCH;
        }
        switch (what) {
            case 0:
                return text.scholar[book];
            case 1:
                return shelf.leafCount[book];
            case 2:
                return text.pagesIn(book);
            case 3:
                return text.dead >> text.scholar[book] & 1;
            default:
                return NO_SUCH;
        }
    }

    public int leaf(int book, int leaf) {
        return text.hasBook(book) ? shelf.onLeaf(book, leaf) : NO_SUCH;
    }

    public int note(int note, int what) {
        if (!text.hasNote(note)) {
            return NO_SUCH;
        }
        switch (what) {
            case 0:
                return text.notePage[note];
            case 1:
                return text.noteBook[note];
            case 2:
                return shelf.says[note];
            case 3:
                return text.denials >> note & 1;
            default:
                return NO_SUCH;
        }
    }

    public int leads(int note) {
        return text.hasNote(note) ? web.target[note] : NO_SUCH;
    }

    public int meant(int note) {
        return text.hasNote(note) ? text.targetAtFirst(note) : NO_SUCH;
    }

    public int astray() {
        if (noTown()) {
            return NO_SUCH;
        }
        int found = 0;
        for (int note = 0; note < text.notes; note++) {
            found |= bit(web.target[note] != text.targetAtFirst(note)) << note;
        }
        return found;
    }

    // ---- acts

    public int edition(int book, int leaf) {
        if (!text.hasBook(book) || leaf < 0 || leaf > shelf.leafCount[book]) {
            return NO_SUCH;
        }
        if (shelf.acts >= ACT_LIMIT || shelf.leafCount[book] >= LEAF_LIMIT) {
            return REFUSED;
        }
        shelf.putBlank(book, leaf);
        settle();
        return shelf.leafCount[book];
    }

    public int tear(int book, int leaf) {
        if (!text.hasBook(book) || leaf < 0 || leaf >= shelf.leafCount[book]) {
            return NO_SUCH;
        }
        int was = shelf.onLeaf(book, leaf);
        if (shelf.acts >= ACT_LIMIT || was == TORN_OUT) {
            return REFUSED;
        }
        shelf.tearOut(book, leaf);
        settle();
        return was;
    }

    public int misprint(int note, int leaf) {
        if (!text.hasNote(note) || leaf < 0 || leaf >= LEAF_LIMIT) {
            return NO_SUCH;
        }
        if (shelf.acts >= ACT_LIMIT) {
            return REFUSED;
        }
        int was = shelf.says[note];
        shelf.reprint(note, leaf);
        settle();
        return was;
    }

    public int undo() {
        if (noTown()) {
            return NO_SUCH;
        }
        if (shelf.acts == 0) {
            return REFUSED;
        }
        shelf.takeBack();
        settle();
        return shelf.acts;
    }

    public int anew() {
        if (noTown()) {
            return NO_SUCH;
        }
        int were = shelf.acts;
        shelf.lay(text);
        settle();
        return were;
    }

    // ---- what reaches what

    public int reach(int page) {
        return text.hasPage(page) ? web.reachedFrom(page) : NO_SUCH;
    }

    public int upon(int page) {
        if (!text.hasPage(page)) {
            return NO_SUCH;
        }
        int found = 0;
        for (int from = 0; from < text.pages; from++) {
            found |= (web.reachedFrom(from) >> page & 1) << from;
        }
        return found;
    }

    public int rings() {
        if (noTown()) {
            return NO_SUCH;
        }
        int found = 0;
        for (int page = 0; page < text.pages; page++) {
            found |= web.reachedFrom(page) & 1 << page;
        }
        return found;
    }

    public int round(int page) {
        if (!text.hasPage(page)) {
            return NO_SUCH;
        }
        web.walkFrom(page);
        return web.steps[page];
    }

    public int ring(int page) {
        if (!text.hasPage(page)) {
            return NO_SUCH;
        }
        return web.reachedFrom(page) & upon(page);
    }

    public int way(int page) {
        return text.hasPage(page) ? web.wayLength(page) : NO_SUCH;
    }

    public int step(int page, int i) {
        if (!text.hasPage(page)) {
            return NO_SUCH;
        }
        int length = web.wayLength(page);
        if (i < 0 || i > length) {
            return NONE;
        }
        int at = page;
        for (int k = 1; k <= i && at >= 0; k++) {
            at = web.nextOnWay(at, length - k);
        }
        return at;
    }

    public int depth(int page) {
        return text.hasPage(page) ? web.farthestFrom(page) : NO_SUCH;
    }

    public int deepest() {
        if (noTown()) {
            return NO_SUCH;
        }
        int best = NONE;
        int most = 0;
        for (int page = 0; page < text.pages; page++) {
            int far = web.farthestFrom(page);
            if (far > most) {
                most = far;
                best = page;
            }
        }
        return best;
    }

    // ---- what stands on facts

    public int grounded() {
        return noTown() ? NO_SUCH : web.groundedWithout(0);
    }

    public int needs(int page) {
        if (!text.hasPage(page)) {
            return NO_SUCH;
        }
        if ((web.groundedWithout(0) >> page & 1) == 0) {
            return 0;
        }
        int found = 1 << page;
        for (int other = 0; other < text.pages; other++) {
            boolean falls = (web.groundedWithout(1 << other) >> page & 1) == 0;
            found |= bit(falls) << other;
        }
        return found;
    }

    public int loss(int page) {
        return text.hasPage(page) ? web.lossBy(page) : NO_SUCH;
    }

    public int key() {
        if (noTown()) {
            return NO_SUCH;
        }
        int best = NONE;
        int most = 0;
        for (int page = 0; page < text.pages; page++) {
            int lost = web.lossBy(page);
            if (lost > most) {
                most = lost;
                best = page;
            }
        }
        return best;
    }

    public int cut(int page) {
        int set = torn(page);
        return set < 0 ? set : Integer.bitCount(set);
    }

    public int torn(int page) {
        if (!text.hasPage(page)) {
            return NO_SUCH;
        }
        return (text.facts >> page & 1) == 1 ? NONE : web.leastCut(page);
    }

    // ---- what can hold together

    private boolean noSet(int set) {
        return noTown() || set < 0 || set >= 1 << text.pages;
    }

    public int holds(int set) {
        if (noSet(set)) {
            return NO_SUCH;
        }
        faith.take(text, web);
        return bit(faith.canHold(set));
    }

    public int ways() {
        if (noTown()) {
            return NO_SUCH;
        }
        faith.take(text, web);
        faith.searchWays();
        return faith.found;
    }

    public int most() {
        int set = mostly();
        return set < 0 ? set : Integer.bitCount(set);
    }

    public int mostly() {
        if (noTown()) {
            return NO_SUCH;
        }
        faith.take(text, web);
        faith.searchWays();
        return faith.largest;
    }

    public int sure(int what) {
        if (noTown() || what < 0 || what > 1) {
            return NO_SUCH;
        }
        faith.take(text, web);
        faith.searchWays();
        if (faith.found == 0) {
            return 0;
        }
        return what == 0 ? faith.inAll : faith.inNone;
    }

    public int loose(int set) {
        if (noSet(set)) {
            return NO_SUCH;
        }
        faith.take(text, web);
        faith.searchLoosest(set);
        return faith.fewestDropped;
    }

    public int loosely(int set) {
        if (noSet(set)) {
            return NO_SUCH;
        }
        faith.take(text, web);
        faith.searchLoosest(set);
        return faith.loosestSet;
    }

    // ---- books read

    public int leaves(int page, int other) {
        if (!text.hasPage(page) || !text.hasPage(other)) {
            return NO_SUCH;
        }
        if (web.isTorn(page) || web.isTorn(other)) {
            return NONE;
        }
        Turns turns = tour.turns;
        turns.measureFromDoors(text, shelf, web);
        turns.measureFrom(page, shelf, web);
        return turns.between(page, other);
    }

    public int reads(int slot, int page) {
        int trouble = tripTrouble(slot, page);
        if (trouble != 0) {
            return trouble;
        }
        planTrip(rows[slot], page);
        return tour.fewestFor(tour.all());
    }

    public int order(int slot, int page, int i) {
        int trouble = tripTrouble(slot, page);
        if (trouble != 0) {
            return trouble;
        }
        if (i < 0 || i >= rows[slot].size) {
            return NONE;
        }
        planTrip(rows[slot], page);
        return tour.stopAt(i);
    }

    public int shares(int slot, int page) {
        int trouble = tripTrouble(slot, page);
        if (trouble != 0) {
            return trouble;
        }
        planTrip(rows[slot], page);
        return tour.longerOf(tour.fairestSet());
    }

    public int first(int slot, int page) {
        int trouble = tripTrouble(slot, page);
        if (trouble != 0) {
            return trouble;
        }
        planTrip(rows[slot], page);
        return tour.fairestSet();
    }

    /** 0 if a trip can be asked for, else the answer that says why not. */
    private int tripTrouble(int slot, int page) {
        if (noSlot(slot) || !text.hasPage(page)) {
            return NO_SUCH;
        }
        Row row = rows[slot];
        if (!row.present) {
            return NOTHING;
        }
        boolean torn = web.isTorn(page);
        for (int i = 0; i < row.size; i++) {
            long number = row.numbers[i];
            if (number < 0 || number >= text.pages) {
                return NO_SUCH;
            }
            torn |= web.isTorn((int) number);
        }
        if (torn) {
            return NONE;
        }
        // the document has this asked last: a torn page in a long row answers NONE
        return row.size > READ_LIMIT ? NO_SUCH : 0;
    }

    private void planTrip(Row row, int page) {
        Turns turns = tour.turns;
        turns.measureFromDoors(text, shelf, web);
        turns.measureFrom(page, shelf, web);
        tour.begin(page);
        for (int i = 0; i < row.size && i < READ_LIMIT; i++) {
            int stop = (int) row.numbers[i];
            tour.addStop(stop);
            turns.measureFrom(stop, shelf, web);
        }
        tour.plan();
    }

    // ---- who sent whom first

    public int sends() {
        if (noTown()) {
            return NO_SUCH;
        }
        precedence.search(text, web);
        return precedence.fewest;
    }

    public int orders() {
        if (noTown()) {
            return NO_SUCH;
        }
        precedence.search(text, web);
        return precedence.found;
    }

    public int earliest(int i) {
        if (noTown()) {
            return NO_SUCH;
        }
        if (i < 0 || i >= text.books) {
            return NONE;
        }
        precedence.search(text, web);
        return precedence.best[i];
    }

    // ---- citations as worth

    private static boolean noRounds(int n) {
        return n < 0 || n > ROUND_LIMIT;
    }

    public int worth(int page, int n) {
        if (!text.hasPage(page) || noRounds(n)) {
            return NO_SUCH;
        }
        ledger.runRounds(text, web, n);
        return ledger.purse[page];
    }

    public int rest() {
        if (noTown()) {
            return NO_SUCH;
        }
        ledger.open(text, web);
        for (int n = 1; n <= ROUND_LIMIT; n++) {
            if (!ledger.roundChanges(text, web)) {
                return n;
            }
        }
        return NONE;
    }

    public int saint(int n) {
        if (noTown() || noRounds(n)) {
            return NO_SUCH;
        }
        ledger.runRounds(text, web, n);
        int best = NONE;
        for (int page = 0; page < text.pages; page++) {
            if (best < 0 || ledger.purse[page] > ledger.purse[best]) {
                best = page;
            }
        }
        return best;
    }

    // ---- two who meet in a third

    private boolean noPair(int page, int other) {
        return !text.hasPage(page) || !text.hasPage(other) || page == other;
    }

    public int meets(int page, int other) {
        if (noPair(page, other)) {
            return NO_SUCH;
        }
        return (web.reachedFrom(page) | 1 << page) & (web.reachedFrom(other) | 1 << other);
    }

    public int nearest(int page, int other) {
        if (noPair(page, other)) {
            return NO_SUCH;
        }
        int meeting = third(page, other);
        return meeting < 0 ? NONE : stepsTogether(page, other, meeting);
    }

    public int third(int page, int other) {
        int common = meets(page, other);
        if (common < 0) {
            return common;
        }
        int best = NONE;
        int fewest = 0;
        for (int meeting = 0; meeting < text.pages; meeting++) {
            if ((common >> meeting & 1) == 1) {
                int together = stepsTogether(page, other, meeting);
                if (best < 0 || together < fewest) {
                    best = meeting;
                    fewest = together;
                }
            }
        }
        return best;
    }

    private int stepsTogether(int page, int other, int meeting) {
        return web.stepsBetween(page, meeting) + web.stepsBetween(other, meeting);
    }

    // ---- scholars

    private boolean noScholar(int scholar) {
        return noTown() || scholar < 0 || scholar >= SCHOLARS;
    }

    public int cited(int scholar) {
        return noScholar(scholar) ? NO_SUCH : leadsTo(scholar);
    }

    private int leadsTo(int scholar) {
        int number = 0;
        for (int from = 0; from < SCHOLARS; from++) {
            number += leadsBetween(from, scholar);
        }
        return number;
    }

    private int leadsBetween(int scholar, int other) {
        int number = 0;
        for (int note = 0; note < text.notes; note++) {
            int target = web.target[note];
            if (target >= 0 && text.scholarOf(target) == other
                    && text.scholarOf(text.notePage[note]) == scholar) {
                number++;
            }
        }
        return number;
    }

    public int famous(int dead) {
        if (noTown() || dead < 0 || dead > 1) {
            return NO_SUCH;
        }
        int best = NONE;
        int most = 0;
        for (int scholar = 0; scholar < SCHOLARS; scholar++) {
            boolean asked = dead == 0 || (text.dead >> scholar & 1) == 1;
            int number = leadsTo(scholar);
            if (asked && number > most) {
                most = number;
                best = scholar;
            }
        }
        return best;
    }

    public int quotes(int scholar, int other) {
        if (noScholar(scholar) || noScholar(other)) {
            return NO_SUCH;
        }
        return leadsBetween(scholar, other);
    }

    // ---- misprints drawn

    private boolean noSeed(int seed) {
        return noTown() || seed < 0 || seed > SEED_LIMIT;
    }

    public int drawn(int seed) {
        return noSeed(seed) ? NO_SUCH : drawMisprints(seed);
    }

    private int drawMisprints(long seed) {
        long x = seed;
        int found = 0;
        for (int note = 0; note < text.notes; note++) {
            x = 1103515245L * x + 12345L & 0x7fffffffL;
            found |= bit(x / 65536L % 100L < text.odds) << note;
        }
        return found;
    }

    private int groundedByDraw(long seed) {
        shakenWeb.weave(text, shelf, drawMisprints(seed));
        return shakenWeb.groundedWithout(0);
    }

    public int shaken(int seed) {
        return noSeed(seed) ? NO_SUCH : Integer.bitCount(groundedByDraw(seed));
    }

    public int years(int seed, int n, int page) {
        if (noSeed(seed) || n < 1 || n > YEAR_LIMIT || !text.hasPage(page)) {
            return NO_SUCH;
        }
        int number = 0;
        for (int year = 0; year < n; year++) {
            number += groundedByDraw((long) seed + year) >> page & 1;
        }
        return number;
    }

    // ---- counts and images

    public int count(int what) {
        switch (what) {
            case 0:
                return text.books;
            case 1:
                return text.pages;
            case 2:
                return text.notes;
            case 3:
                return Integer.bitCount(text.facts);
            case 4:
                return text.opens;
            case 5:
                return text.odds;
            case 6:
                return shelf.acts;
            case 7:
                return text.lines;
            case 8:
                return reader.tape.size;
            case 9:
                return rowsPresent();
            default:
                return NONE;
        }
    }

    private int rowsPresent() {
        int number = 0;
        for (int slot = 0; slot < SLOTS; slot++) {
            number += bit(rows[slot].present);
        }
        return number;
    }

    private static boolean noImage(int k) {
        return k < 0 || k >= IMAGES;
    }

    public int image(int k) {
        if (noImage(k)) {
            return NO_SUCH;
        }
        imageTexts[k].copyFrom(text);
        imageShelves[k].copyFrom(shelf);
        imageKept[k] = true;
        return 0;
    }

    public int back(int k) {
        if (noImage(k)) {
            return NO_SUCH;
        }
        if (!imageKept[k]) {
            return NOTHING;
        }
        text.copyFrom(imageTexts[k]);
        shelf.copyFrom(imageShelves[k]);
        settle();
        return 0;
    }

    // ---- slots

    private static boolean noSlot(int slot) {
        return slot < 0 || slot >= SLOTS;
    }

    public int row(int slot, int width, int n) {
        if (noSlot(slot) || width < 0 || width >= WIDTHS || n > ROW_LIMIT) {
            return NO_SUCH;
        }
        if (n < 0) {
            return BELOW_ZERO;
        }
        rows[slot].begin(width, n);
        return 0;
    }

    public int write(int slot, int i, long v) {
        if (noSlot(slot)) {
            return NO_SUCH;
        }
        Row row = rows[slot];
        if (!row.present) {
            return NOTHING;
        }
        if (i < 0 || i >= row.size) {
            return BEYOND;
        }
        row.numbers[i] = row.cutToWidth(v);
        return 0;
    }

    public int paste(int slot, int i, int to, int k, int n) {
        if (noSlot(slot) || noSlot(to)) {
            return NO_SUCH;
        }
        Row from = rows[slot];
        Row into = rows[to];
        if (!from.present || !into.present) {
            return NOTHING;
        }
        if (from.width != into.width) {
            return UNLIKE;
        }
        if (!from.spans(i, n) || !into.spans(k, n)) {
            return BEYOND;
        }
        System.arraycopy(from.numbers, i, into.numbers, k, n);
        return 0;
    }

    // ---- the classes inside

    /** A slot: a row of numbers of one width, or nothing. */
    private static final class Row {
        private boolean present;
        private int width;
        private int size;
        private final long[] numbers = new long[ROW_LIMIT];

        private void begin(int newWidth, int newSize) {
            present = true;
            width = newWidth;
            size = newSize;
            Arrays.fill(numbers, 0L);
        }

        private long cutToWidth(long v) {
            switch (width) {
                case 0:
                    return (byte) v;
                case 1:
                    return (short) v;
                case 2:
                    return (int) v;
                default:
                    return v;
            }
        }

        /** Asked without adding, since a place and a number together may wrap around. */
        private boolean spans(int from, int n) {
            return from >= 0 && n >= 0 && from <= size && n <= size - from;
        }
    }

    /** The bytes that were fed and that no town has taken yet, and the token under the eye. */
    private static final class Tape {
        private static final int END = 0;
        private static final int WORD = 1;
        private static final int NUMBER = 2;
        private static final int SIGN = 3;
        private static final int STRANGE = 4;
        /** Far above every bound of the document, so that digits can't overflow. */
        private static final int HUGE = 1000000;

        private int size;
        private final byte[] bytes = new byte[TAPE_LIMIT];
        private int kind;
        private int start;
        private int stop;

        private void put(int number) {
            for (int shift = 24; shift >= 0 && size < TAPE_LIMIT; shift -= 8) {
                bytes[size] = (byte) (number >> shift);
                size++;
            }
        }

        private void goToFirstToken() {
            stop = 0;
            moveOn();
        }

        /** Finds the next token, behind the one that is there now. */
        private void moveOn() {
            start = stop;
            while (start < size && (bytes[start] == 32 || bytes[start] == 10)) {
                start++;
            }
            if (start >= size) {
                kind = END;
                start = size;
                stop = size;
                return;
            }
            kind = kindOf(bytes[start]);
            stop = start + 1;
            while (stop < size && kind != SIGN && kindOf(bytes[stop]) == kind) {
                stop++;
            }
        }

        private static int kindOf(byte sign) {
            if (sign >= 'a' && sign <= 'z') {
                return WORD;
            }
            if (sign >= '0' && sign <= '9') {
                return NUMBER;
            }
            return sign == ';' ? SIGN : STRANGE;
        }

        private boolean isWord(String word) {
            if (kind != WORD || stop - start != word.length()) {
                return false;
            }
            for (int i = 0; i < word.length(); i++) {
                if (bytes[start + i] != word.charAt(i)) {
                    return false;
                }
            }
            return true;
        }

        private int valueOfDigits() {
            int value = 0;
            for (int i = start; i < stop; i++) {
                value = Math.min(HUGE, value * 10 + bytes[i] - '0');
            }
            return value;
        }
    }

    /** A town as its lines tell it: acts do not change it. */
    private static final class Text {
        private int lines;
        private int opens;
        private int odds;
        private int books;
        private int pages;
        private int notes;
        private int facts;
        private int dead;
        private int denials;
        private final int[] scholar = new int[BOOK_LIMIT];
        private final int[] firstPage = new int[BOOK_LIMIT + 1];
        private final int[] bookOf = new int[PAGE_LIMIT];
        private final int[] notePage = new int[NOTE_LIMIT];
        private final int[] noteBook = new int[NOTE_LIMIT];
        private final int[] noteLeaf = new int[NOTE_LIMIT];

        private void clear() {
            lines = 0;
            opens = 0;
            odds = 0;
            books = 0;
            pages = 0;
            notes = 0;
            facts = 0;
            dead = 0;
            denials = 0;
        }

        private void copyFrom(Text other) {
            lines = other.lines;
            opens = other.opens;
            odds = other.odds;
            books = other.books;
            pages = other.pages;
            notes = other.notes;
            facts = other.facts;
            dead = other.dead;
            denials = other.denials;
            System.arraycopy(other.scholar, 0, scholar, 0, BOOK_LIMIT);
            System.arraycopy(other.firstPage, 0, firstPage, 0, BOOK_LIMIT + 1);
            System.arraycopy(other.bookOf, 0, bookOf, 0, PAGE_LIMIT);
            System.arraycopy(other.notePage, 0, notePage, 0, NOTE_LIMIT);
            System.arraycopy(other.noteBook, 0, noteBook, 0, NOTE_LIMIT);
            System.arraycopy(other.noteLeaf, 0, noteLeaf, 0, NOTE_LIMIT);
        }

        private void addBook(int size, int by) {
            if (books >= BOOK_LIMIT || pages + size > PAGE_LIMIT) {
                return;
            }
            scholar[books] = by;
            firstPage[books] = pages;
            for (int i = 0; i < size; i++) {
                bookOf[pages] = books;
                pages++;
            }
            books++;
            firstPage[books] = pages;
        }

        private void addNote(int page, int book, int leaf, boolean denies) {
            if (notes >= NOTE_LIMIT) {
                return;
            }
            notePage[notes] = page;
            noteBook[notes] = book;
            noteLeaf[notes] = leaf;
            denials |= bit(denies) << notes;
            notes++;
        }

        private boolean hasPage(int page) {
            return page >= 0 && page < pages;
        }

        private boolean hasBook(int book) {
            return book >= 0 && book < books;
        }

        private boolean hasNote(int note) {
            return note >= 0 && note < notes;
        }

        private int pagesIn(int book) {
            return firstPage[book + 1] - firstPage[book];
        }

        private int scholarOf(int page) {
            return scholar[bookOf[page]];
        }

        private int notesOn(int page) {
            int number = 0;
            for (int note = 0; note < notes; note++) {
                number += bit(notePage[note] == page);
            }
            return number;
        }

        private int targetAtFirst(int note) {
            int book = noteBook[note];
            return noteLeaf[note] < pagesIn(book) ? firstPage[book] + noteLeaf[note] : NONE;
        }
    }

    /** Reads the tape into a text, up to the first fault. */
    private static final class Reader {
        private static final int MISPLACED = 1;
        private static final int OUT_OF_BOUNDS = 2;
        private static final int TOO_MANY = 3;
        private static final int BOOK_PAGES = 9;

        private final Tape tape = new Tape();
        private final Text told = new Text();
        private int fault;
        private int faultPlace = NONE;

        private void readLines() {
            fault = 0;
            faultPlace = NONE;
            told.clear();
            tape.goToFirstToken();
            for (int i = 0; i < TAPE_LIMIT && tape.kind != Tape.END && fault == 0; i++) {
                readLine();
                takeSign();
                told.lines++;
            }
        }

        private void readLine() {
            if (told.lines == 0) {
                readTown();
            } else if (tape.isWord("book")) {
                readBook();
            } else if (tape.isWord("note")) {
                readNote();
            } else if (tape.isWord("fact")) {
                takeWord("fact");
                told.facts = takeNewMember(told.facts, told.pages - 1);
            } else if (tape.isWord("dead")) {
                takeWord("dead");
                told.dead = takeNewMember(told.dead, SCHOLARS - 1);
            } else {
                blame(MISPLACED, tape.start);
            }
        }

        private void readTown() {
            takeWord("town");
            takeWord("opens");
            told.opens = takeNumber(1, 20);
            takeWord("odds");
            told.odds = takeNumber(0, 100);
        }

        private void readBook() {
            if (told.books >= BOOK_LIMIT) {
                blame(TOO_MANY, tape.start);
            }
            takeWord("book");
            takeWord("pages");
            int place = tape.start;
            int pages = takeNumber(1, BOOK_PAGES);
            if (told.pages + pages > PAGE_LIMIT) {
                blame(TOO_MANY, place);
            }
            takeWord("by");
            int by = takeNumber(0, SCHOLARS - 1);
            if (fault == 0) {
                told.addBook(pages, by);
            }
        }

        private void readNote() {
            if (told.notes >= NOTE_LIMIT) {
                blame(TOO_MANY, tape.start);
            }
            takeWord("note");
            int page = takeNumber(0, told.pages - 1);
            takeWord("to");
            int book = takeNumber(0, told.books - 1);
            int leaf = takeNumber(0, LEAF_LIMIT - 1);
            boolean denies = tape.isWord("denies");
            if (denies) {
                takeWord("denies");
            }
            if (fault == 0) {
                told.addNote(page, book, leaf, denies);
            }
        }

        /** Takes a number that must not be in the set yet: the set with it. */
        private int takeNewMember(int set, int high) {
            int place = tape.start;
            int member = takeNumber(0, high);
            if ((set >> member & 1) == 1) {
                blame(OUT_OF_BOUNDS, place);
            }
            return set | 1 << member;
        }

        private void takeWord(String word) {
            if (tape.isWord(word)) {
                tape.moveOn();
            } else {
                blame(MISPLACED, tape.start);
            }
        }

        private void takeSign() {
            if (tape.kind == Tape.SIGN) {
                tape.moveOn();
            } else {
                blame(MISPLACED, tape.start);
            }
        }

        /** The number that stands here; behind a fault the lower bound, so that it can be used. */
        private int takeNumber(int low, int high) {
            if (tape.kind != Tape.NUMBER) {
                blame(MISPLACED, tape.start);
                return low;
            }
            int value = tape.valueOfDigits();
            if (value < low || value > high) {
                blame(OUT_OF_BOUNDS, tape.start);
                return low;
            }
            tape.moveOn();
            return value;
        }

        /** The tape is read from its first place on, so the first fault is the one that counts. */
        private void blame(int what, int place) {
            if (fault == 0) {
                fault = what;
                faultPlace = place;
            }
        }
    }

    /** The books as they stand now, what the notes say now, and the acts that made it so. */
    private static final class Shelf {
        private static final int EDITION = 0;
        private static final int TEAR = 1;
        private static final int MISPRINT = 2;

        private int acts;
        private final int[] leafCount = new int[BOOK_LIMIT];
        private final int[] content = new int[BOOK_LIMIT * LEAF_LIMIT];
        private final int[] says = new int[NOTE_LIMIT];
        private final int[] actKind = new int[ACT_LIMIT];
        private final int[] actOn = new int[ACT_LIMIT];
        private final int[] actLeaf = new int[ACT_LIMIT];
        private final int[] actWas = new int[ACT_LIMIT];

        /** As the text tells it, without acts. */
        private void lay(Text text) {
            acts = 0;
            for (int book = 0; book < text.books; book++) {
                leafCount[book] = text.pagesIn(book);
                for (int leaf = 0; leaf < leafCount[book]; leaf++) {
                    content[book * LEAF_LIMIT + leaf] = text.firstPage[book] + leaf;
                }
            }
            System.arraycopy(text.noteLeaf, 0, says, 0, NOTE_LIMIT);
        }

        private void copyFrom(Shelf other) {
            acts = other.acts;
            System.arraycopy(other.leafCount, 0, leafCount, 0, BOOK_LIMIT);
            System.arraycopy(other.content, 0, content, 0, BOOK_LIMIT * LEAF_LIMIT);
            System.arraycopy(other.says, 0, says, 0, NOTE_LIMIT);
            System.arraycopy(other.actKind, 0, actKind, 0, ACT_LIMIT);
            System.arraycopy(other.actOn, 0, actOn, 0, ACT_LIMIT);
            System.arraycopy(other.actLeaf, 0, actLeaf, 0, ACT_LIMIT);
            System.arraycopy(other.actWas, 0, actWas, 0, ACT_LIMIT);
        }

        /** The page on a leaf, or that it is blank, torn out, or not there (NONE). */
        private int onLeaf(int book, int leaf) {
            if (leaf < 0 || leaf >= leafCount[book]) {
                return NONE;
            }
            return content[book * LEAF_LIMIT + leaf];
        }

        private void putBlank(int book, int leaf) {
            remember(EDITION, book, leaf, BLANK);
            int base = book * LEAF_LIMIT;
            for (int i = leafCount[book]; i > leaf; i--) {
                content[base + i] = content[base + i - 1];
            }
            content[base + leaf] = BLANK;
            leafCount[book]++;
        }

        private void tearOut(int book, int leaf) {
            remember(TEAR, book, leaf, onLeaf(book, leaf));
            content[book * LEAF_LIMIT + leaf] = TORN_OUT;
        }

        private void reprint(int note, int leaf) {
            remember(MISPRINT, note, leaf, says[note]);
            says[note] = leaf;
        }

        private void remember(int kind, int on, int leaf, int was) {
            if (acts < ACT_LIMIT) {
                actKind[acts] = kind;
                actOn[acts] = on;
                actLeaf[acts] = leaf;
                actWas[acts] = was;
                acts++;
            }
        }

        private void takeBack() {
            if (acts == 0) {
                return;
            }
            acts--;
            int on = actOn[acts];
            if (actKind[acts] == MISPRINT) {
                says[on] = actWas[acts];
            } else if (actKind[acts] == TEAR) {
                content[on * LEAF_LIMIT + actLeaf[acts]] = actWas[acts];
            } else {
                takeOutLeaf(on, actLeaf[acts]);
            }
        }

        private void takeOutLeaf(int book, int leaf) {
            int base = book * LEAF_LIMIT;
            leafCount[book]--;
            for (int i = leaf; i < leafCount[book]; i++) {
                content[base + i] = content[base + i + 1];
            }
        }
    }

    /** Where the notes lead, and what follows from it page by page. Sets of pages are bits. */
    private static final class Web {
        private int pages;
        private int standingFacts;
        /** Each page's leaf among those of all books; NONE: it is torn out. */
        private final int[] place = new int[PAGE_LIMIT];
        private final int[] target = new int[NOTE_LIMIT];
        private final int[] next = new int[PAGE_LIMIT];
        /** The fewest notes from the page last walked from; NONE: none lead there. */
        private final int[] steps = new int[PAGE_LIMIT];
        private int reached;

        private void weave(Text text, Shelf shelf, int misprints) {
            pages = text.pages;
            locatePages(text, shelf);
            Arrays.fill(next, 0);
            for (int note = 0; note < text.notes; note++) {
                int page = text.notePage[note];
                int leaf = shelf.says[note] + (misprints >> note & 1);
                int found = shelf.onLeaf(text.noteBook[note], leaf);
                target[note] = found >= 0 && place[page] >= 0 ? found : NONE;
                if (target[note] >= 0) {
                    next[page] |= 1 << target[note];
                }
            }
        }

        private void locatePages(Text text, Shelf shelf) {
            Arrays.fill(place, NONE);
            standingFacts = 0;
            for (int book = 0; book < text.books; book++) {
                for (int leaf = 0; leaf < shelf.leafCount[book]; leaf++) {
                    int page = shelf.onLeaf(book, leaf);
                    if (page >= 0) {
                        place[page] = book * LEAF_LIMIT + leaf;
                        standingFacts |= text.facts & 1 << page;
                    }
                }
            }
        }

        private boolean isTorn(int page) {
            return place[page] < 0;
        }

        private void walkFrom(int page) {
            Arrays.fill(steps, NONE);
            reached = 0;
            int edge = next[page];
            for (int n = 1; n <= pages && edge != 0; n++) {
                int beyond = 0;
                for (int at = 0; at < pages; at++) {
                    if ((edge >> at & 1) == 1) {
                        steps[at] = n;
                        beyond |= next[at];
                    }
                }
                reached |= edge;
                edge = beyond & ~reached;
            }
        }

        private int reachedFrom(int page) {
            walkFrom(page);
            return reached;
        }

        /** Standing still is no step. */
        private int stepsBetween(int page, int other) {
            if (page == other) {
                return 0;
            }
            walkFrom(page);
            return steps[other];
        }

        private int farthestFrom(int page) {
            walkFrom(page);
            int most = 0;
            for (int at = 0; at < pages; at++) {
                most = Math.max(most, steps[at]);
            }
            return most;
        }

        private int wayLength(int page) {
            if ((standingFacts >> page & 1) == 1) {
                return 0;
            }
            walkFrom(page);
            int fewest = NONE;
            for (int at = 0; at < pages; at++) {
                boolean fact = (standingFacts & reached & 1 << at) != 0;
                if (fact && (fewest < 0 || steps[at] < fewest)) {
                    fewest = steps[at];
                }
            }
            return fewest;
        }

        /** The least page behind one from which a way has so many notes. */
        private int nextOnWay(int page, int length) {
            for (int at = 0; at < pages; at++) {
                if ((next[page] >> at & 1) == 1 && wayLength(at) == length) {
                    return at;
                }
            }
            return NONE;
        }

        /** The pages with a way to a fact, as if those of a set were torn out. */
        private int groundedWithout(int removed) {
            int found = standingFacts & ~removed;
            boolean grown = found != 0;
            for (int n = 0; n < pages && grown; n++) {
                grown = false;
                for (int page = 0; page < pages; page++) {
                    if ((next[page] & found) != 0 && ((found | removed) >> page & 1) == 0) {
                        found |= 1 << page;
                        grown = true;
                    }
                }
            }
            return found;
        }

        private int lossBy(int page) {
            int itself = 1 << page;
            return Integer.bitCount(groundedWithout(0) & ~groundedWithout(itself) & ~itself);
        }

        /** For a page that is no fact: the least set of the fewest pages that leave it no way. */
        private int leastCut(int page) {
            int itself = 1 << page;
            // either of these sets leaves no way, so that larger ones need no look
            int enough = Math.min(Integer.bitCount(standingFacts), Integer.bitCount(next[page] & ~itself));
            int best = 0;
            int fewest = enough + 1;
            for (int set = 0; set < 1 << pages && fewest > 0; set++) {
                int size = Integer.bitCount(set);
                if (size < fewest && (set & itself) == 0 && (groundedWithout(set) & itself) == 0) {
                    best = set;
                    fewest = size;
                }
            }
            return best;
        }
    }

    /** What can hold together. */
    private static final class Faith {
        private int full;
        private int facts;
        private int notes;
        /** The notes that lead to a page, packed together: whose, whither, whether it denies. */
        private final int[] from = new int[NOTE_LIMIT];
        private final int[] to = new int[NOTE_LIMIT];
        private final int[] wanted = new int[NOTE_LIMIT];
        private int found;
        private int largest;
        private int inAll;
        private int inNone;
        private int fewestDropped;
        private int loosestSet;

        private void take(Text text, Web web) {
            full = (1 << text.pages) - 1;
            facts = text.facts;
            notes = 0;
            for (int note = 0; note < text.notes; note++) {
                if (web.target[note] >= 0) {
                    from[notes] = text.notePage[note];
                    to[notes] = web.target[note];
                    wanted[notes] = 1 - (text.denials >> note & 1);
                    notes++;
                }
            }
        }

        private boolean canHold(int set) {
            return (facts & ~set) == 0 && broken(set, 1) == 0;
        }

        /** How many notes would have to be dropped for a set; counts no further than enough. */
        private int broken(int set, int enough) {
            int number = 0;
            for (int i = 0; i < notes && number < enough; i++) {
                if ((set >> from[i] & 1) == 1 && (set >> to[i] & 1) != wanted[i]) {
                    number++;
                }
            }
            return number;
        }

        private void searchWays() {
            found = 0;
            largest = NONE;
            inAll = full;
            inNone = full;
            // only sets with all facts in them come up
            for (int set = facts; set <= full; set = set + 1 | facts) {
                if (broken(set, 1) == 0) {
                    found++;
                    inAll &= set;
                    inNone &= ~set;
                    if (largest < 0 || Integer.bitCount(set) > Integer.bitCount(largest)) {
                        largest = set;
                    }
                }
            }
        }

        private void searchLoosest(int asked) {
            int base = asked | facts;
            fewestDropped = notes + 1;
            loosestSet = base;
            for (int set = base; set <= full && fewestDropped > 0; set = set + 1 | base) {
                int dropped = broken(set, fewestDropped);
                if (dropped < fewestDropped) {
                    fewestDropped = dropped;
                    loosestSet = set;
                }
            }
        }
    }

    /** The fewest turns between pages. */
    private static final class Turns {
        private int opens;
        private final int[] fromDoors = new int[BOOK_LIMIT * LEAF_LIMIT];
        private final int[] fromPage = new int[BOOK_LIMIT * LEAF_LIMIT];
        private final int[] queue = new int[BOOK_LIMIT * LEAF_LIMIT];
        private int queued;
        private final int[] far = new int[PAGE_LIMIT * PAGE_LIMIT];

        private void measureFromDoors(Text text, Shelf shelf, Web web) {
            opens = text.opens;
            Arrays.fill(fromDoors, NONE);
            queued = 0;
            for (int book = 0; book < text.books; book++) {
                arrive(fromDoors, book * LEAF_LIMIT, 0);
            }
            spread(fromDoors, shelf, web);
        }

        /** A book may be opened from anywhere, so that opening pays at the start or never. */
        private void measureFrom(int page, Shelf shelf, Web web) {
            if (web.isTorn(page)) {
                return;
            }
            Arrays.fill(fromPage, NONE);
            queued = 0;
            arrive(fromPage, web.place[page], 0);
            spread(fromPage, shelf, web);
            for (int other = 0; other < web.pages; other++) {
                if (!web.isTorn(other)) {
                    int opening = opens + fromDoors[web.place[other]];
                    int walking = fromPage[web.place[other]];
                    boolean walk = walking >= 0 && walking < opening;
                    far[page * PAGE_LIMIT + other] = walk ? walking : opening;
                }
            }
        }

        /** Of pages that stand; the first must have been measured from. */
        private int between(int page, int other) {
            return far[page * PAGE_LIMIT + other];
        }

        private void spread(int[] dist, Shelf shelf, Web web) {
            for (int i = 0; i < queued && i < queue.length; i++) {
                int at = queue[i];
                int behind = dist[at] + 1;
                int book = at / LEAF_LIMIT;
                int leaf = at % LEAF_LIMIT;
                if (leaf > 0) {
                    arrive(dist, at - 1, behind);
                }
                if (leaf + 1 < shelf.leafCount[book]) {
                    arrive(dist, at + 1, behind);
                }
                followNotes(dist, web, shelf.onLeaf(book, leaf), behind);
            }
        }

        private void followNotes(int[] dist, Web web, int page, int behind) {
            if (page < 0) {
                return;
            }
            for (int other = 0; other < web.pages; other++) {
                if ((web.next[page] >> other & 1) == 1) {
                    arrive(dist, web.place[other], behind);
                }
            }
        }

        /** Each leaf is queued once at most, so the queue has room. */
        private void arrive(int[] dist, int at, int distance) {
            if (at >= 0 && dist[at] < 0 && queued < queue.length) {
                dist[at] = distance;
                queue[queued] = at;
                queued++;
            }
        }
    }

    /** In which order to read the pages of a row, alone and by two. Sets of places are bits. */
    private static final class Tour {
        private static final int START = READ_LIMIT;
        private static final int SPOTS = READ_LIMIT + 1;

        private final Turns turns = new Turns();
        private int size;
        private final int[] stop = new int[SPOTS];
        /** The fewest turns through a set of places, by the place where one is. */
        private final int[] left = new int[(1 << READ_LIMIT) * SPOTS];

        private void begin(int page) {
            size = 0;
            stop[START] = page;
        }

        private void addStop(int page) {
            if (size < READ_LIMIT) {
                stop[size] = page;
                size++;
            }
        }

        private int all() {
            return (1 << size) - 1;
        }

        /** Less is left by smaller sets, which are met first. */
        private void plan() {
            for (int set = 0; set <= all(); set++) {
                for (int at = 0; at < size; at++) {
                    if ((set >> at & 1) == 0) {
                        left[set * SPOTS + at] = fewestFrom(set, at);
                    }
                }
                left[set * SPOTS + START] = fewestFrom(set, START);
            }
        }

        private int fewestFrom(int set, int at) {
            int fewest = set == 0 ? 0 : NONE;
            for (int to = 0; to < size; to++) {
                if ((set >> to & 1) == 1) {
                    int cost = costBy(set, at, to);
                    if (fewest < 0 || cost < fewest) {
                        fewest = cost;
                    }
                }
            }
            return fewest;
        }

        /** The turns if, of a set, one place comes next. */
        private int costBy(int set, int at, int to) {
            return turns.between(stop[at], stop[to]) + left[(set & ~(1 << to)) * SPOTS + to];
        }

        private int fewestFor(int set) {
            return left[set * SPOTS + START];
        }

        /** The page that comes at a number in the first of the best orders. */
        private int stopAt(int number) {
            int set = all();
            int at = START;
            for (int i = 0; i <= number && set != 0; i++) {
                at = bestNext(set, at);
                set &= ~(1 << at);
            }
            return stop[at];
        }

        private int bestNext(int set, int at) {
            for (int to = 0; to < size; to++) {
                if ((set >> to & 1) == 1 && costBy(set, at, to) == left[set * SPOTS + at]) {
                    return to;
                }
            }
            return START;
        }

        private int longerOf(int set) {
            return Math.max(fewestFor(set), fewestFor(all() & ~set));
        }

        private int fairestSet() {
            int best = 0;
            for (int set = 1; set <= all(); set++) {
                if (longerOf(set) < longerOf(best)) {
                    best = set;
                }
            }
            return best;
        }
    }

    /** The orders of the books in which the fewest notes lead to a later one. */
    private static final class Precedence {
        private static final int MOST_ORDERS = 120;

        private int books;
        private final int[] sent = new int[BOOK_LIMIT * BOOK_LIMIT];
        private final int[] tried = new int[BOOK_LIMIT];
        private final int[] best = new int[BOOK_LIMIT];
        private int fewest;
        private int found;

        private void search(Text text, Web web) {
            books = text.books;
            tally(text, web);
            for (int i = 0; i < books; i++) {
                tried[i] = i;
            }
            fewest = NOTE_LIMIT + 1;
            found = 0;
            boolean more = true;
            for (int n = 0; n < MOST_ORDERS && more; n++) {
                weighTried();
                more = moveToNextOrder();
            }
        }

        private void tally(Text text, Web web) {
            Arrays.fill(sent, 0);
            for (int note = 0; note < text.notes; note++) {
                if (web.target[note] >= 0) {
                    int from = text.bookOf[text.notePage[note]];
                    int to = text.bookOf[web.target[note]];
                    sent[from * BOOK_LIMIT + to]++;
                }
            }
        }

        private void weighTried() {
            int number = 0;
            for (int i = 0; i < books; i++) {
                for (int j = i + 1; j < books; j++) {
                    number += sent[tried[i] * BOOK_LIMIT + tried[j]];
                }
            }
            if (number < fewest) {
                fewest = number;
                found = 0;
                System.arraycopy(tried, 0, best, 0, books);
            }
            if (number == fewest) {
                found++;
            }
        }

        /** Orders come up by their rows, the least first; false behind the last. */
        private boolean moveToNextOrder() {
            int rise = books - 2;
            while (rise >= 0 && tried[rise] > tried[rise + 1]) {
                rise--;
            }
            if (rise < 0) {
                return false;
            }
            int above = books - 1;
            while (above > rise && tried[above] < tried[rise]) {
                above--;
            }
            swap(rise, above);
            for (int low = rise + 1, high = books - 1; low < high; low++, high--) {
                swap(low, high);
            }
            return true;
        }

        private void swap(int i, int j) {
            int kept = tried[i];
            tried[i] = tried[j];
            tried[j] = kept;
        }
    }

    /** Citations as worth. */
    private static final class Ledger {
        private static final int WORTH_AT_FIRST = 1000;

        private final int[] purse = new int[PAGE_LIMIT];
        private final int[] parts = new int[PAGE_LIMIT];
        private final int[] share = new int[PAGE_LIMIT];
        private final int[] gain = new int[PAGE_LIMIT];

        private void open(Text text, Web web) {
            Arrays.fill(purse, WORTH_AT_FIRST);
            Arrays.fill(parts, 0);
            for (int note = 0; note < text.notes; note++) {
                if (web.target[note] >= 0) {
                    parts[text.notePage[note]]++;
                }
            }
        }

        private void runRounds(Text text, Web web, int n) {
            open(text, web);
            boolean changing = true;
            for (int i = 0; i < n && changing; i++) {
                changing = roundChanges(text, web);
            }
        }

        /** One round for all at once: whether a purse is not as before. */
        private boolean roundChanges(Text text, Web web) {
            for (int page = 0; page < text.pages; page++) {
                share[page] = parts[page] == 0 ? 0 : purse[page] / parts[page];
                gain[page] = -share[page] * parts[page];
            }
            for (int note = 0; note < text.notes; note++) {
                if (web.target[note] >= 0) {
                    gain[web.target[note]] += share[text.notePage[note]];
                }
            }
            boolean changes = false;
            for (int page = 0; page < text.pages; page++) {
                purse[page] += gain[page];
                changes |= gain[page] != 0;
            }
            return changes;
        }
    }
}
