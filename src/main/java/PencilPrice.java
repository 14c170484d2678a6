import java.util.Arrays;

/** A shop of old books priced in pencil. The project's document tells what each call answers. */
public final class PencilPrice {
    public static final int NONE = -1;
    public static final long NOTHING = -1000000000000000000L;

    private static final int CANNOT_BE = -1;
    private static final int NOT_THERE = -2;
    private static final int NO_ROOM = -5;
    private static final int UNREADABLE = -6;

    private static final int BOOKS = 10;
    private static final int BOXES = 12;
    private static final int CARDS = 8;
    private static final int OCTOBERS = 10;
    private static final int MARKS = 6;
    private static final int LAWS = 6;
    private static final int IMAGES = 2;
    private static final int TAPE = 400;

    // What of a BOOK.
    private static final int KIND = 0;
    private static final int WORTH = 1;
    private static final int AGE = 2;
    private static final int PRICE = 3;
    private static final int PLACE = 4;
    private static final int[] BOOK_MOST = {9, 999, 99, 999, 2};

    private static final int SHELF = 0;
    private static final int TABLE = 1;
    private static final int WINDOW = 2;

    // What of a BOX, of a CARD, of a MARK.
    private static final int SIZE = 0;
    private static final int GOOD = 1;
    private static final int BOX_WORTH = 2;
    private static final int CARD_KIND = 0;
    private static final int SINCE = 1;
    private static final int SUM = 2;
    private static final int FIRST = 0;
    private static final int OTHERS = 1;

    private static final int WEEK = 0;
    private static final int RAIN = 1;
    private static final int RUB = 2;
    private static final int LEFT = 3;
    private static final int HANDS = 4;
    private static final int PRICES = 5;
    private static final int TERMS = 6;
    private static final int[] TERM_LEAST = {0, 0, 0, 0, 0, 1};
    private static final int[] TERM_MOST = {51, 1, 99, 999, 9, 99};

    private static final int YEAR = 52;
    private static final int GRID = 20;
    private static final int WRITTEN_WEEKS = 6;

    private final Stock stock = new Stock();
    private final Stock[] images = new Stock[IMAGES];
    private final boolean[] imaged = new boolean[IMAGES];
    private final Asker asker = new Asker(stock);
    private final Reader reader = new Reader();
    private final Writer writer = new Writer(stock, asker);
    private final Tables tables = new Tables(stock, asker);
    private final Keeper keeper = new Keeper(stock, asker);
    private final Dealer buyer = new Dealer(stock, asker);
    private final Diary diary = new Diary(stock, asker, buyer);
    private final int[] tape = new int[TAPE];
    private int taped;
    private int faulty = NONE;
    private int foxedRows;
    private int latest;
    private final int[] refusals = new int[-UNREADABLE + 1];

    public PencilPrice() {
        for (int k = 0; k < IMAGES; k++) {
            images[k] = new Stock();
        }
    }

    // ---- BOOKS and TERMS

    public int book(int kind, int worth, int age, int price, int place) {
        if (!bookCanBe(kind, worth, age, price, place)) {
            return refused(CANNOT_BE);
        }
        int book = addBook(kind, worth, age, price, place);
        return book == NONE ? refused(NO_ROOM) : accepted(book);
    }

    public int put(int book, int what, int value) {
        if (!isWithin(what, KIND, PLACE) || !isWithin(value, 0, BOOK_MOST[what])) {
            return refused(CANNOT_BE);
        }
        if (!stock.books.has(book)) {
            return refused(NOT_THERE);
        }
        int before = stock.books.get(book, what);
        stock.books.set(book, what, value);
        return accepted(before);
    }

    public int of(int book, int what) {
        return stock.books.get(book, what);
    }

    public int drop(int book) {
        return removed(stock.books, book);
    }

    public int terms(int what, int value) {
        if (!isWithin(what, 0, TERMS - 1) || !isWithin(value, TERM_LEAST[what], TERM_MOST[what])) {
            return refused(CANNOT_BE);
        }
        int before = stock.terms[what];
        stock.terms[what] = value;
        return accepted(before);
    }

    // ---- the TAPE, its ROWS and its LAWS

    public int feed(int a, int b, int c, int d, int e) {
        if (taped + 20 > TAPE) {
            return NONE;
        }
        feedNumber(a);
        feedNumber(b);
        feedNumber(c);
        feedNumber(d);
        feedNumber(e);
        return taped;
    }

    public int end(int n) {
        if (!isWithin(n, 0, taped)) {
            return NONE;
        }
        taped = n;
        return n;
    }

    public int row() {
        if (taped == 0) {
            return refused(UNREADABLE);
        }
        int came = 0;
        foxedRows = 0;
        for (int at = 0; at < taped; at += 3) {
            if (bookFromTape(at)) {
                came++;
            } else {
                foxedRows++;
            }
        }
        taped = 0;
        return accepted(came);
    }

    public int foxed() {
        return foxedRows;
    }

    public int law() {
        int length = taped;
        taped = 0;
        if (stock.lawCount >= LAWS) {
            return refused(NO_ROOM);
        }
        Law law = reader.read(tape, length);
        faulty = reader.fault;
        if (law == null) {
            return refused(UNREADABLE);
        }
        stock.laws[stock.lawCount] = law;
        stock.lawCount++;
        return accepted(stock.lawCount - 1);
    }

    public int fault() {
        return faulty;
    }

    public int force(int law) {
        if (!isWithin(law, NONE, stock.lawCount - 1)) {
            return refused(NOT_THERE);
        }
        int before = stock.inForce;
        stock.inForce = law;
        return accepted(before);
    }

    // ---- what the LAW in FORCE tells

    public int chance(int book, int price, int weeks, int crowd) {
        if (!stock.books.has(book) || !isWithin(price, 0, 2000)
                || !isWithin(weeks, 0, YEAR - 1) || !isWithin(crowd, 0, 999)) {
            return NONE;
        }
        asker.about(book, weeks);
        asker.words[Reader.PRICE_WORD] = price;
        asker.words[Reader.CROWD_WORD] = crowd;
        return asker.sells();
    }

    public int asks(int book, int what) {
        if (!stock.books.has(book) || !isWithin(what, 0, 1)) {
            return NONE;
        }
        if (what == 0) {
            return asker.drawsOnTable(book, 0);
        }
        asker.about(book, 0);
        return asker.dealerTakes() ? 1 : 0;
    }

    // ---- PRICES week by week

    public long write(int book, int n) {
        if (!stock.books.has(book) || !isWithin(n, 1, WRITTEN_WEEKS)) {
            return NOTHING;
        }
        writer.plan(book, n);
        return writer.most(0, GRID);
    }

    public int pencil(int book, int n, int i) {
        if (!stock.books.has(book) || !isWithin(n, 1, WRITTEN_WEEKS) || !isWithin(i, 0, n - 1)) {
            return NONE;
        }
        writer.plan(book, n);
        return writer.priceInWeek(i);
    }

    public long stands(int book, int n) {
        if (!stock.books.has(book) || !isWithin(n, 0, WRITTEN_WEEKS)) {
            return NOTHING;
        }
        long likely = 1;
        for (int week = 0; week < n; week++) {
            asker.about(book, week);
            likely *= 100 - asker.sells();
        }
        return likely;
    }

    // ---- BOXES

    public int box(int size, int good, int worth) {
        if (!isWithin(size, 1, 20) || !isWithin(good, 0, size) || !isWithin(worth, 0, 9999)) {
            return refused(CANNOT_BE);
        }
        int box = stock.boxes.open();
        if (box == NONE) {
            return refused(NO_ROOM);
        }
        stock.boxes.set(box, SIZE, size);
        stock.boxes.set(box, GOOD, good);
        stock.boxes.set(box, BOX_WORTH, worth);
        return accepted(stock.boxes.count);
    }

    public int unbox(int box) {
        return removed(stock.boxes, box);
    }

    public long worth(int size, int k, int g, int what) {
        if (!isWithin(what, 0, 1)) {
            return NOTHING;
        }
        long ways = 0;
        long worth = 0;
        for (int box = 0; box < stock.boxes.count; box++) {
            long likes = waysToShow(box, size, k, g);
            ways += likes;
            worth += likes * stock.boxes.get(box, BOX_WORTH);
        }
        return lowestTerms(worth, ways, what);
    }

    public long glance(int size, int k, int g, int sum, int what) {
        if (!isWithin(what, 0, 1) || !isWithin(sum, 0, 9999) || k >= size) {
            return NOTHING;
        }
        long ways = 0;
        long without = 0;
        long ifGood = 0;
        long ifNot = 0;
        for (int box = 0; box < stock.boxes.count; box++) {
            long likes = waysToShow(box, size, k, g);
            if (likes > 0) {
                int goodLeft = stock.boxes.get(box, GOOD) - g;
                long gain = likes * (stock.boxes.get(box, BOX_WORTH) - sum);
                ways += likes;
                without += gain * (size - k);
                ifGood += gain * goodLeft;
                ifNot += gain * (size - k - goodLeft);
            }
        }
        // A BOX that would bring a loss is not bought: what it brings then is 0.
        long more = Math.max(0, ifGood) + Math.max(0, ifNot) - Math.max(0, without);
        return lowestTerms(more, ways * (size - k), what);
    }

    // ---- TABLES

    public long income(int table) {
        if (!isWithin(table, 0, (1 << stock.books.count) - 1)) {
            return NOTHING;
        }
        tables.look();
        if ((table & tables.inWindow) != 0) {
            return NOTHING;
        }
        return tables.incomeOf(table);
    }

    public int best(int m, int what) {
        if (!isWithin(m, 0, BOOKS) || !isWithin(what, 0, 2)) {
            return NONE;
        }
        tables.look();
        tables.chooseBest(m);
        switch (what) {
            case 0:
                return tables.bestTable;
            case 1:
                return tables.crowdOf(tables.bestTable);
            default:
                return tables.asGood;
        }
    }

    // ---- CARDS

    public int card(int kind, int since, int sum) {
        if (!isWithin(kind, 0, BOOK_MOST[KIND]) || !isWithin(since, 0, 99) || !isWithin(sum, 0, 999)) {
            return refused(CANNOT_BE);
        }
        int card = stock.cards.open();
        if (card == NONE) {
            return refused(NO_ROOM);
        }
        stock.cards.set(card, CARD_KIND, kind);
        stock.cards.set(card, SINCE, since);
        stock.cards.set(card, SUM, sum);
        return accepted(card);
    }

    public int uncard(int card) {
        return removed(stock.cards, card);
    }

    public int wants(int card, int book) {
        if (!stock.cards.has(card) || !stock.books.has(book)) {
            return NONE;
        }
        return asker.stillWanted(card, book);
    }

    public int keep(int card) {
        if (card != NONE && !stock.cards.has(card)) {
            return NONE;
        }
        keeper.plan();
        return card == NONE ? keeper.total() : keeper.bookFor(card);
    }

    // ---- the DEALER

    public int dealer(int what) {
        if (!isWithin(what, 0, 1)) {
            return NONE;
        }
        int taken = buyer.takes((1 << stock.books.count) - 1, 0);
        return what == 0 ? taken : buyer.pays(taken);
    }

    public int brings() {
        buyer.lookAtAll();
        return buyer.broughtTogether();
    }

    public int bait(int one, int other, int what) {
        if (!stock.books.has(one) || !stock.books.has(other) || one == other || !isWithin(what, 0, 2)) {
            return NONE;
        }
        buyer.bestBait(one, other);
        switch (what) {
            case 0:
                return buyer.baitOne;
            case 1:
                return buyer.baitOther;
            default:
                return buyer.baitBrings;
        }
    }

    // ---- STUDENTS

    public int october(int copies) {
        if (!isWithin(copies, 0, 999)) {
            return refused(CANNOT_BE);
        }
        int october = stock.octobers.open();
        if (october == NONE) {
            return refused(NO_ROOM);
        }
        stock.octobers.set(october, 0, copies);
        return accepted(stock.octobers.count);
    }

    public int forget() {
        return emptied(stock.octobers);
    }

    public long june(int n, int a, int b, int c) {
        if (!isWithin(n, 0, 999) || !juneCanBe(a, b, c)) {
            return NOTHING;
        }
        return broughtInJune(n, a, b, c);
    }

    public int copies(int a, int b, int c) {
        if (!juneCanBe(a, b, c)) {
            return NONE;
        }
        // Between what was bought in two OCTOBERS the sum goes up or down evenly,
        // so that the lowest best n is one of these, 0 or 999.
        int best = betterCopies(0, 999, a, b, c);
        for (int october = 0; october < stock.octobers.count; october++) {
            best = betterCopies(best, stock.octobers.get(october, 0), a, b, c);
        }
        return best;
    }

    // ---- MARKS

    public int mark(int first, int others) {
        if (!isWithin(first, 0, 100) || !isWithin(others, 0, 100)) {
            return refused(CANNOT_BE);
        }
        int mark = stock.marks.open();
        if (mark == NONE) {
            return refused(NO_ROOM);
        }
        stock.marks.set(mark, FIRST, first);
        stock.marks.set(mark, OTHERS, others);
        return accepted(mark);
    }

    public int clear() {
        return emptied(stock.marks);
    }

    public long likely(int marks, int prior, int what) {
        if (!isWithin(marks, 0, (1 << stock.marks.count) - 1)
                || !isWithin(prior, 0, 100) || !isWithin(what, 0, 1)) {
            return NOTHING;
        }
        long first = prior * howOften(marks, FIRST);
        long another = (100 - prior) * howOften(marks, OTHERS);
        return lowestTerms(first, first + another, what);
    }

    public long errors(int prior, int line, int what) {
        if (!isWithin(prior, 0, 100) || !isWithin(line, 0, 100) || !isWithin(what, 0, 1)) {
            return NOTHING;
        }
        long missed = 0;
        long miscalled = 0;
        for (int marks = 0; marks < 1 << stock.marks.count; marks++) {
            long first = howOften(marks, FIRST);
            long another = howOften(marks, OTHERS);
            if (isCalled(prior * first, (100 - prior) * another, line)) {
                miscalled += another;
            } else {
                missed += first;
            }
        }
        return what == 0 ? missed : miscalled;
    }

    // ---- WEEKS, IMAGES, counts

    public int weeks(int seed, int n) {
        if (!isWithin(seed, 0, 1000000) || !isWithin(n, 1, 40)) {
            return refused(CANNOT_BE);
        }
        return accepted(diary.live(seed, n));
    }

    public int gone(int book, int what) {
        if (!isWithin(book, 0, BOOKS - 1) || !isWithin(what, 0, 1)) {
            return NONE;
        }
        return what == 0 ? diary.goneIn[book] : diary.goneTo[book];
    }

    public int image(int k) {
        if (!isWithin(k, 0, IMAGES - 1)) {
            return refused(CANNOT_BE);
        }
        images[k].becomeAs(stock);
        imaged[k] = true;
        return accepted(0);
    }

    public int back(int k) {
        if (!isWithin(k, 0, IMAGES - 1)) {
            return refused(CANNOT_BE);
        }
        if (!imaged[k]) {
            return refused(NOT_THERE);
        }
        stock.becomeAs(images[k]);
        return accepted(0);
    }

    public int count(int what) {
        switch (what) {
            case 0:
                return stock.books.count;
            case 1:
                return stock.lawCount;
            case 2:
                return stock.boxes.count;
            case 3:
                return stock.cards.count;
            case 4:
                return stock.octobers.count;
            case 5:
                return stock.marks.count;
            case 6:
                return taped;
            case 7:
                return refusals[-CANNOT_BE];
            case 8:
                return refusals[-NOT_THERE];
            case 9:
                return refusals[-NO_ROOM];
            case 10:
                return refusals[-UNREADABLE];
            case 11:
                return stock.inForce;
            default:
                return isWithin(what, 12, 12 + TERMS - 1) ? stock.terms[what - 12] : NONE;
        }
    }

    public int status() {
        return latest;
    }

    // ---- what the calls have in common

    private static boolean isWithin(int value, int least, int most) {
        return value >= least && value <= most;
    }

    private int refused(int by) {
        latest = by;
        refusals[-by]++;
        return by;
    }

    private int accepted(int answer) {
        latest = 0;
        return answer;
    }

    private int removed(Rows rows, int row) {
        if (!rows.has(row)) {
            return refused(NOT_THERE);
        }
        rows.remove(row);
        return accepted(rows.count);
    }

    private static int emptied(Rows rows) {
        int before = rows.count;
        rows.count = 0;
        return before;
    }

    private static boolean bookCanBe(int kind, int worth, int age, int price, int place) {
        return isWithin(kind, 0, BOOK_MOST[KIND]) && isWithin(worth, 0, BOOK_MOST[WORTH])
                && isWithin(age, 0, BOOK_MOST[AGE]) && isWithin(price, 0, BOOK_MOST[PRICE])
                && isWithin(place, 0, BOOK_MOST[PLACE]);
    }

    private int addBook(int kind, int worth, int age, int price, int place) {
        int book = stock.books.open();
        if (book != NONE) {
            stock.books.set(book, KIND, kind);
            stock.books.set(book, WORTH, worth);
            stock.books.set(book, AGE, age);
            stock.books.set(book, PRICE, price);
            stock.books.set(book, PLACE, place);
        }
        return book;
    }

    private void feedNumber(int number) {
        for (int shift = 24; shift >= 0 && taped < TAPE; shift -= 8) {
            tape[taped] = number >>> shift & 255;
            taped++;
        }
    }

    private boolean bookFromTape(int at) {
        if (at + 2 >= taped || tape[at] > BOOK_MOST[KIND]) {
            return false;
        }
        return addBook(tape[at], tape[at + 1], 0, tape[at + 2], SHELF) != NONE;
    }

    /** In how many ways k books of that BOX could show just g GOOD ones. */
    private long waysToShow(int box, int size, int k, int g) {
        if (stock.boxes.get(box, SIZE) != size || !isWithin(k, 0, size) || !isWithin(g, 0, k)) {
            return 0;
        }
        int good = stock.boxes.get(box, GOOD);
        return waysToChoose(good, g) * waysToChoose(size - good, k - g);
    }

    private static long waysToChoose(int of, int some) {
        if (!isWithin(some, 0, of)) {
            return 0;
        }
        long ways = 1;
        for (int i = 1; i <= some; i++) {
            ways = ways * (of - some + i) / i;
        }
        return ways;
    }

    private static long lowestTerms(long upper, long lower, int what) {
        if (lower <= 0) {
            return NOTHING;
        }
        long common = lower;
        long rest = upper;
        // No two longs need as many steps.
        for (int step = 0; step < 200 && rest != 0; step++) {
            long next = common % rest;
            common = rest;
            rest = next;
        }
        return (what == 0 ? upper : lower) / common;
    }

    private boolean juneCanBe(int a, int b, int c) {
        return stock.octobers.count > 0
                && isWithin(a, 0, 999) && isWithin(b, 0, 999) && isWithin(c, 0, 999);
    }

    private long broughtInJune(int n, int a, int b, int c) {
        long together = 0;
        for (int october = 0; october < stock.octobers.count; october++) {
            int sold = Math.min(n, stock.octobers.get(october, 0));
            together += (long) sold * b + (long) (n - sold) * c - (long) n * a;
        }
        return together;
    }

    private int betterCopies(int one, int other, int a, int b, int c) {
        long byOne = broughtInJune(one, a, b, c);
        long byOther = broughtInJune(other, a, b, c);
        if (byOne == byOther) {
            return Math.min(one, other);
        }
        return byOne > byOther ? one : other;
    }

    /** How many, of 100 multiplied by itself as often as there are MARKS, show just these. */
    private long howOften(int marks, int column) {
        long often = 1;
        for (int mark = 0; mark < stock.marks.count; mark++) {
            int shows = stock.marks.get(mark, column);
            often *= (marks >> mark & 1) == 1 ? shows : 100 - shows;
        }
        return often;
    }

    private static boolean isCalled(long first, long another, int line) {
        // Where neither could show the MARKS, nothing tells how LIKELY it is.
        return first + another > 0 && first * 100 >= (first + another) * line;
    }

    /** Rows of numbers, one behind the other, each index tested before it is used. */
    private static final class Rows {
        private final int most;
        private final int width;
        private final int[] cells;
        private int count;

        private Rows(int most, int width) {
            this.most = most;
            this.width = width;
            this.cells = new int[most * width];
        }

        private boolean has(int row) {
            return row >= 0 && row < count;
        }

        private int open() {
            if (count >= most) {
                return NONE;
            }
            count++;
            return count - 1;
        }

        private int get(int row, int what) {
            return has(row) && what >= 0 && what < width ? cells[row * width + what] : NONE;
        }

        private void set(int row, int what, int value) {
            if (has(row) && what >= 0 && what < width) {
                cells[row * width + what] = value;
            }
        }

        private void remove(int row) {
            if (has(row)) {
                System.arraycopy(cells, (row + 1) * width, cells, row * width, (count - row - 1) * width);
                count--;
            }
        }

        private void becomeAs(Rows other) {
            System.arraycopy(other.cells, 0, cells, 0, Math.min(cells.length, other.cells.length));
            count = other.count;
        }
    }

    /** All that an IMAGE keeps. */
    private static final class Stock {
        private final Rows books = new Rows(BOOKS, 5);
        private final Rows boxes = new Rows(BOXES, 3);
        private final Rows cards = new Rows(CARDS, 3);
        private final Rows octobers = new Rows(OCTOBERS, 1);
        private final Rows marks = new Rows(MARKS, 2);
        private final int[] terms = {0, 0, 1, 0, 2, 10};
        // A LAW never changes once it is made, so that IMAGES can hold the same ones.
        private final Law[] laws = new Law[LAWS];
        private int lawCount;
        private int inForce = NONE;

        private Law lawInForce() {
            return inForce >= 0 && inForce < lawCount ? laws[inForce] : null;
        }

        private void becomeAs(Stock other) {
            books.becomeAs(other.books);
            boxes.becomeAs(other.boxes);
            cards.becomeAs(other.cards);
            octobers.becomeAs(other.octobers);
            marks.becomeAs(other.marks);
            System.arraycopy(other.terms, 0, terms, 0, TERMS);
            for (int law = 0; law < LAWS; law++) {
                laws[law] = other.laws[law];
            }
            lawCount = other.lawCount;
            inForce = other.inForce;
        }
    }

    /** A LAW as steps for a stack: its SUM first, then its TEST, CLAUSE by CLAUSE. */
    private static final class Law {
        private static final int NUMBER = 0;
        private static final int WORD = 1;
        private static final int PLUS = 2;
        private static final int MINUS = 3;
        private static final int TIMES = 4;
        private static final int OVER = 5;
        private static final int LESS = 6;
        private static final int GREATER = 7;
        private static final int SAME = 8;
        private static final int NOT = 9;
        private static final int OR = 10;
        private static final int AND = 11;
        private static final int TELL = 12;

        private final int clauses;
        private final int[] heads;
        private final int[] starts;
        private final int[] steps;

        private Law(int clauses, int[] heads, int[] starts, int[] steps) {
            this.clauses = clauses;
            this.heads = heads;
            this.starts = starts;
            this.steps = steps;
        }
    }

    /** A TEXT cut into TOKENS, with an END behind them. */
    private static final class Tokens {
        // Each word in five places; the first ten are those that a PART can be.
        private static final String WORDS =
                "book kind worthage  priceplaceweek rain crowdsincesellsdrawswantstakesif   or   and  not  ";
        private static final int WORD_LENGTH = 5;
        private static final int WORD_COUNT = 18;

        // A single byte is itself, words and all others stand behind the bytes.
        private static final int FIRST_WORD = 256;
        private static final int IF = FIRST_WORD + 14;
        private static final int OR = FIRST_WORD + 15;
        private static final int AND = FIRST_WORD + 16;
        private static final int NOT = FIRST_WORD + 17;
        private static final int NUMBER = FIRST_WORD + 18;
        private static final int STRANGE = FIRST_WORD + 19;
        private static final int END = FIRST_WORD + 20;
        private static final int BEYOND_NUMBERS = 1001;

        private final int[] kinds = new int[TAPE + 1];
        private final int[] places = new int[TAPE + 1];
        private final int[] numbers = new int[TAPE + 1];
        private int count;

        private void cut(int[] text, int taped) {
            int length = Math.min(taped, text.length);
            count = 0;
            int at = 0;
            for (int i = 0; i < TAPE && at < length; i++) {
                if (text[at] == ' ') {
                    at++;
                } else {
                    int to = endOfRow(text, at, length);
                    add(kindOf(text, at, to), at, isDigit(text[at]) ? numberOf(text, at, to) : 0);
                    at = to;
                }
            }
            add(END, length, 0);
        }

        private void add(int kind, int place, int number) {
            if (count < kinds.length) {
                kinds[count] = kind;
                places[count] = place;
                numbers[count] = number;
                count++;
            }
        }

        private static int endOfRow(int[] text, int from, int length) {
            boolean letters = isLetter(text[from]);
            boolean digits = isDigit(text[from]);
            int to = from + 1;
            while (to < length && (letters && isLetter(text[to]) || digits && isDigit(text[to]))) {
                to++;
            }
            return to;
        }

        private static boolean isLetter(int sign) {
            return sign >= 'a' && sign <= 'z';
        }

        private static boolean isDigit(int sign) {
            return sign >= '0' && sign <= '9';
        }

        private static int kindOf(int[] text, int from, int to) {
            if (isDigit(text[from])) {
                return NUMBER;
            }
            return isLetter(text[from]) ? wordOf(text, from, to) : text[from];
        }

        private static int numberOf(int[] text, int from, int to) {
            int number = 0;
            for (int i = from; i < to; i++) {
                number = Math.min(number * 10 + text[i] - '0', BEYOND_NUMBERS);
            }
            return number;
        }

        private static int wordOf(int[] text, int from, int to) {
            for (int word = 0; word < WORD_COUNT && to - from <= WORD_LENGTH; word++) {
                if (isWord(word, text, from, to)) {
                    return FIRST_WORD + word;
                }
            }
            return STRANGE;
        }

        private static boolean isWord(int word, int[] text, int from, int to) {
            for (int i = 0; i < WORD_LENGTH; i++) {
                int letter = from + i < to ? text[from + i] : ' ';
                if (letter != WORDS.charAt(word * WORD_LENGTH + i)) {
                    return false;
                }
            }
            return true;
        }
    }

    /** Reads a TEXT into a LAW, or finds its FAULT. */
    private static final class Reader {
        private static final int CLAUSES = 12;
        private static final int PARTS = 50;
        private static final int BRACKETS = 8;

        // The words as their places among the Tokens' words.
        private static final int PART_WORDS = 10;
        private static final int BOOK_WORD = 0;
        private static final int KIND_WORD = 1;
        private static final int WORTH_WORD = 2;
        private static final int AGE_WORD = 3;
        private static final int PRICE_WORD = 4;
        private static final int PLACE_WORD = 5;
        private static final int WEEK_WORD = 6;
        private static final int RAIN_WORD = 7;
        private static final int CROWD_WORD = 8;
        private static final int SINCE_WORD = 9;
        private static final int SELLS = 10;
        private static final int DRAWS = 11;
        private static final int WANTS = 12;
        private static final int TAKES = 13;

        private final Tokens tokens = new Tokens();
        private final int[] heads = new int[CLAUSES];
        private final int[] starts = new int[CLAUSES + 1];
        private final int[] steps = new int[TAPE];
        private int at;
        private int parts;
        private int used;
        private int fault = NONE;

        /** The LAW; null with a FAULT. */
        private Law read(int[] text, int length) {
            tokens.cut(text, length);
            at = 0;
            parts = 0;
            used = 0;
            fault = NONE;
            for (int clause = 0; clause < CLAUSES; clause++) {
                if (!readClause(clause)) {
                    return null;
                }
                if (token() == Tokens.END) {
                    return made(clause + 1);
                }
                if (token() != ';') {
                    fails();
                    return null;
                }
                next();
            }
            fails();
            return null;
        }

        private Law made(int clauses) {
            starts[clauses] = used;
            return new Law(clauses, Arrays.copyOf(heads, clauses),
                    Arrays.copyOf(starts, clauses + 1), Arrays.copyOf(steps, used));
        }

        private int token() {
            return tokens.kinds[at];
        }

        private void next() {
            if (at + 1 < tokens.count) {
                at++;
            }
        }

        private boolean fails() {
            fault = tokens.places[at];
            return false;
        }

        private boolean readClause(int clause) {
            int head = token() - Tokens.FIRST_WORD;
            if (head < SELLS || head > TAKES) {
                return fails();
            }
            heads[clause] = head;
            starts[clause] = used;
            next();
            if (head != TAKES) {
                if (!readSum(0)) {
                    return false;
                }
                step(Law.TELL, 0);
            }
            if (token() != Tokens.IF) {
                return true;
            }
            next();
            return readTest(0);
        }

        private boolean readTest(int depth) {
            int chain = NONE;
            for (int i = 0; i <= TAPE; i++) {
                if (!readBoth(depth)) {
                    return false;
                }
                if (token() != Tokens.OR) {
                    land(chain);
                    return true;
                }
                chain = jump(Law.OR, chain);
                next();
            }
            return fails();
        }

        private boolean readBoth(int depth) {
            int chain = NONE;
            for (int i = 0; i <= TAPE; i++) {
                if (!readPlain(depth)) {
                    return false;
                }
                if (token() != Tokens.AND) {
                    land(chain);
                    return true;
                }
                chain = jump(Law.AND, chain);
                next();
            }
            return fails();
        }

        private boolean readPlain(int depth) {
            boolean not = false;
            // Two that follow each other change nothing, BROKEN or not.
            for (int i = 0; i <= TAPE && token() == Tokens.NOT; i++) {
                not = !not;
                next();
            }
            if (!(token() == '(' ? readTestInBrackets(depth) : readCompared(depth))) {
                return false;
            }
            if (not) {
                step(Law.NOT, 0);
            }
            return true;
        }

        private boolean readTestInBrackets(int depth) {
            return opens(depth) && readTest(depth + 1) && closes(')');
        }

        private boolean readCompared(int depth) {
            if (!readSum(depth)) {
                return false;
            }
            int sign = token();
            if (sign != '<' && sign != '>' && sign != '=') {
                return fails();
            }
            next();
            if (!readSum(depth)) {
                return false;
            }
            step(sign == '<' ? Law.LESS : sign == '>' ? Law.GREATER : Law.SAME, 0);
            return true;
        }

        private boolean readSum(int depth) {
            if (!readTerm(depth)) {
                return false;
            }
            for (int i = 0; i <= TAPE && (token() == '+' || token() == '-'); i++) {
                int sign = token();
                next();
                if (!readTerm(depth)) {
                    return false;
                }
                step(sign == '+' ? Law.PLUS : Law.MINUS, 0);
            }
            return true;
        }

        private boolean readTerm(int depth) {
            if (!readPart(depth)) {
                return false;
            }
            for (int i = 0; i <= TAPE && (token() == '*' || token() == '/'); i++) {
                int sign = token();
                next();
                if (!readPart(depth)) {
                    return false;
                }
                step(sign == '*' ? Law.TIMES : Law.OVER, 0);
            }
            return true;
        }

        private boolean readPart(int depth) {
            if (token() == '[') {
                return opens(depth) && readSum(depth + 1) && closes(']');
            }
            int number = tokens.numbers[at];
            int word = token() - Tokens.FIRST_WORD;
            boolean isNumber = token() == Tokens.NUMBER && number < Tokens.BEYOND_NUMBERS;
            boolean isWord = word >= 0 && word < PART_WORDS;
            if (!isWord && !isNumber || parts >= PARTS) {
                return fails();
            }
            parts++;
            step(isWord ? Law.WORD : Law.NUMBER, isWord ? word : number);
            next();
            return true;
        }

        private boolean opens(int depth) {
            if (depth >= BRACKETS) {
                return fails();
            }
            next();
            return true;
        }

        private boolean closes(int bracket) {
            if (token() != bracket) {
                return fails();
            }
            next();
            return true;
        }

        // Every step comes of another TOKEN, so that there are never more steps than bytes.
        private void step(int what, int with) {
            if (used < steps.length) {
                steps[used] = what | with << 4;
                used++;
            }
        }

        /** A step whose goal is not known yet: till then it holds the jump ahead of it. */
        private int jump(int what, int chain) {
            step(what, chain + 1);
            return used - 1;
        }

        private void land(int chain) {
            int jump = chain;
            for (int i = 0; i <= TAPE && jump >= 0; i++) {
                int before = (steps[jump] >> 4) - 1;
                steps[jump] = steps[jump] & 15 | used << 4;
                jump = before;
            }
        }
    }

    /** Asks the LAW in FORCE of a BOOK. */
    private static final class Asker {
        private static final long BEYOND = 1000000000L;
        // Two cells that are always there below, so that two can be taken at any step.
        private static final int FLOOR = 2;

        private final Stock stock;
        private final int[] words = new int[Reader.PART_WORDS];
        // A comparison and eight brackets hold some twenty numbers at once.
        private final long[] stack = new long[64];
        private int top;
        private long sum;

        private Asker(Stock stock) {
            this.stock = stock;
        }

        /** Of that BOOK as it stands, so many weeks from WEEK on, without a crowd or a CARD. */
        private void about(int book, int weeks) {
            words[Reader.BOOK_WORD] = book;
            words[Reader.KIND_WORD] = stock.books.get(book, KIND);
            words[Reader.WORTH_WORD] = stock.books.get(book, WORTH);
            words[Reader.AGE_WORD] = stock.books.get(book, AGE) + weeks;
            words[Reader.PRICE_WORD] = stock.books.get(book, PRICE);
            words[Reader.PLACE_WORD] = stock.books.get(book, PLACE);
            words[Reader.WEEK_WORD] = (stock.terms[WEEK] + weeks) % YEAR;
            words[Reader.RAIN_WORD] = stock.terms[RAIN];
            words[Reader.CROWD_WORD] = 0;
            words[Reader.SINCE_WORD] = 0;
        }

        private int sells() {
            return told(Reader.SELLS, 100, 10);
        }

        private int drawsOnTable(int book, int weeks) {
            about(book, weeks);
            words[Reader.PLACE_WORD] = TABLE;
            return told(Reader.DRAWS, 99, 0);
        }

        private int stillWanted(int card, int book) {
            about(book, 0);
            words[Reader.SINCE_WORD] = stock.cards.get(card, SINCE);
            return told(Reader.WANTS, 100, 50);
        }

        private boolean dealerTakes() {
            return told(Reader.TAKES, 0, NONE) != NONE;
        }

        private int told(int head, int most, int without) {
            Law law = stock.lawInForce();
            if (law == null) {
                return without;
            }
            for (int clause = law.clauses - 1; clause >= 0; clause--) {
                if (law.heads[clause] == head && holds(law, clause)) {
                    return (int) Math.max(0, Math.min(sum, most));
                }
            }
            return without;
        }

        private boolean holds(Law law, int clause) {
            boolean so = true;
            top = FLOOR;
            sum = 0;
            int end = Math.min(law.starts[clause + 1], law.steps.length);
            for (int at = law.starts[clause]; at < end; at++) {
                if (top < FLOOR || top >= stack.length) {
                    return false;
                }
                int what = law.steps[at] & 15;
                int with = law.steps[at] >> 4;
                switch (what) {
                    case Law.NUMBER:
                        stack[top] = with;
                        top++;
                        break;
                    case Law.WORD:
                        stack[top] = with < words.length ? words[with] : 0;
                        top++;
                        break;
                    case Law.TELL:
                        top--;
                        sum = stack[top];
                        break;
                    case Law.NOT:
                        so = !so;
                        break;
                    case Law.OR:
                        at = so ? Math.max(at, with - 1) : at;
                        break;
                    case Law.AND:
                        at = so ? at : Math.max(at, with - 1);
                        break;
                    case Law.LESS:
                    case Law.GREATER:
                    case Law.SAME:
                        top -= 2;
                        so = compared(what, stack[top], stack[top + 1]);
                        break;
                    default:
                        if (!reckons(what)) {
                            return false;
                        }
                }
            }
            return so;
        }

        private static boolean compared(int what, long left, long right) {
            switch (what) {
                case Law.LESS:
                    return left < right;
                case Law.GREATER:
                    return left > right;
                default:
                    return left == right;
            }
        }

        /** Puts one number for the upper two; false, if that is BROKEN. */
        private boolean reckons(int what) {
            if (top < FLOOR || top > stack.length) {
                return false;
            }
            long right = stack[top - 1];
            long left = stack[top - 2];
            if (what == Law.OVER && right == 0) {
                return false;
            }
            long result;
            switch (what) {
                case Law.PLUS:
                    result = left + right;
                    break;
                case Law.MINUS:
                    result = left - right;
                    break;
                case Law.TIMES:
                    result = left * right;
                    break;
                default:
                    result = left / right;
            }
            top--;
            stack[top - 1] = result;
            return result >= -BEYOND && result <= BEYOND;
        }
    }

    /** PRICES to WRITE week by week: the GRID's, and behind them the BOOK's own. */
    private static final class Writer {
        private final Stock stock;
        private final Asker asker;
        private final int[] prices = new int[GRID + 1];
        private final long[][] standing = new long[WRITTEN_WEEKS][GRID + 1];
        private final long[] rubbed = new long[WRITTEN_WEEKS];
        private final int[] written = new int[WRITTEN_WEEKS];

        private Writer(Stock stock, Asker asker) {
            this.stock = stock;
            this.asker = asker;
        }

        private void plan(int book, int n) {
            for (int i = 0; i < GRID; i++) {
                prices[i] = (i + 1) * stock.terms[PRICES];
            }
            prices[GRID] = stock.books.get(book, PRICE);
            long whole = 1;
            for (int week = Math.min(n, WRITTEN_WEEKS) - 1; week >= 0; week--) {
                planWeek(book, week, week == n - 1, whole);
                whole *= 100;
            }
        }

        private void planWeek(int book, int week, boolean isLast, long whole) {
            asker.about(book, week);
            int best = 0;
            for (int i = 0; i <= GRID; i++) {
                asker.words[Reader.PRICE_WORD] = prices[i];
                int chance = asker.sells();
                long after = isLast ? stock.terms[LEFT] : most(week + 1, i);
                standing[week][i] = chance * prices[i] * whole + (100 - chance) * after;
                if (i < GRID && standing[week][i] > standing[week][best]) {
                    best = i;
                }
            }
            written[week] = best;
            rubbed[week] = standing[week][best] - stock.terms[RUB] * whole * 100;
        }

        private long most(int week, int price) {
            return Math.max(standing[week][price], rubbed[week]);
        }

        private int priceInWeek(int last) {
            int price = GRID;
            for (int week = 0; week <= last; week++) {
                if (rubbed[week] > standing[week][price]) {
                    price = written[week];
                }
            }
            return prices[price];
        }
    }

    /** What TABLES draw in and bring. */
    private static final class Tables {
        private final Stock stock;
        private final Asker asker;
        private final int[] draws = new int[BOOKS];
        // Many TABLES draw in the same crowd: each CHANCE is asked for once in a look.
        private final int[] chances = new int[(99 * BOOKS + 1) * 2 * BOOKS];
        private int inWindow;
        private int bestTable;
        private int asGood;

        private Tables(Stock stock, Asker asker) {
            this.stock = stock;
            this.asker = asker;
        }

        private void look() {
            int together = 0;
            inWindow = 0;
            for (int book = 0; book < stock.books.count; book++) {
                draws[book] = asker.drawsOnTable(book, 0);
                if (stock.books.get(book, PLACE) == WINDOW) {
                    inWindow |= 1 << book;
                } else {
                    together += draws[book];
                }
            }
            Arrays.fill(chances, 0, Math.min(chances.length, (together + 1) * 2 * BOOKS), NONE);
        }

        private int crowdOf(int table) {
            int crowd = 0;
            for (int book = 0; book < stock.books.count; book++) {
                if ((table >> book & 1) == 1) {
                    crowd += draws[book];
                }
            }
            return crowd;
        }

        private long incomeOf(int table) {
            int crowd = crowdOf(table);
            long income = 0;
            for (int book = 0; book < stock.books.count; book++) {
                income += stock.books.get(book, PRICE) * chanceWith(book, table >> book & 1, crowd);
            }
            return income;
        }

        private int chanceWith(int book, int onTable, int crowd) {
            int at = (crowd * 2 + onTable) * BOOKS + book;
            if (at < 0 || at >= chances.length) {
                return 0;
            }
            if (chances[at] == NONE) {
                asker.about(book, 0);
                asker.words[Reader.PLACE_WORD] = placeThen(book, onTable);
                asker.words[Reader.CROWD_WORD] = crowd;
                chances[at] = asker.sells();
            }
            return chances[at];
        }

        private int placeThen(int book, int onTable) {
            if ((inWindow >> book & 1) == 1) {
                return WINDOW;
            }
            return onTable == 1 ? TABLE : SHELF;
        }

        private void chooseBest(int m) {
            long most = NOTHING;
            bestTable = 0;
            asGood = 0;
            for (int table = 0; table < 1 << stock.books.count; table++) {
                if ((table & inWindow) != 0 || Integer.bitCount(table) > m) {
                    continue;
                }
                long income = incomeOf(table);
                if (income > most) {
                    most = income;
                    bestTable = table;
                    asGood = 1;
                } else if (income == most) {
                    asGood++;
                }
            }
        }
    }

    /** BOOKS KEPT for CARDS: the most by the CARDS from one on, by the BOOKS that are given away. */
    private static final class Keeper {
        private final Stock stock;
        private final Asker asker;
        private final int[][] pays = new int[CARDS][BOOKS];
        private final int[][] most = new int[CARDS + 1][1 << BOOKS];

        private Keeper(Stock stock, Asker asker) {
            this.stock = stock;
            this.asker = asker;
        }

        private void plan() {
            int sets = 1 << stock.books.count;
            int cards = stock.cards.count;
            Arrays.fill(most[cards], 0, sets, 0);
            for (int card = cards - 1; card >= 0; card--) {
                askFor(card);
                for (int given = 0; given < sets; given++) {
                    // The CARDS ahead can't have been given more.
                    if (Integer.bitCount(given) <= card) {
                        most[card][given] = mostFrom(card, given);
                    }
                }
            }
        }

        private void askFor(int card) {
            for (int book = 0; book < stock.books.count; book++) {
                boolean fits = stock.books.get(book, KIND) == stock.cards.get(card, CARD_KIND);
                pays[card][book] = fits ? stock.cards.get(card, SUM) * asker.stillWanted(card, book) : NONE;
            }
        }

        private boolean canHave(int card, int book, int given) {
            return pays[card][book] != NONE && (given >> book & 1) == 0;
        }

        private int with(int card, int book, int given) {
            return pays[card][book] + most[card + 1][given | 1 << book];
        }

        private int mostFrom(int card, int given) {
            int best = most[card + 1][given];
            for (int book = 0; book < stock.books.count; book++) {
                if (canHave(card, book, given)) {
                    best = Math.max(best, with(card, book, given));
                }
            }
            return best;
        }

        private int total() {
            return most[0][0];
        }

        private int bookFor(int wanted) {
            int given = 0;
            int kept = NONE;
            for (int card = 0; card <= wanted; card++) {
                kept = firstBest(card, given);
                if (kept != NONE) {
                    given |= 1 << kept;
                }
            }
            return kept;
        }

        private int firstBest(int card, int given) {
            if (most[card + 1][given] == most[card][given]) {
                return NONE;
            }
            for (int book = 0; book < stock.books.count; book++) {
                if (canHave(card, book, given) && with(card, book, given) == most[card][given]) {
                    return book;
                }
            }
            return NONE;
        }
    }

    /** The DEALER on THURSDAY, and PRICES written for him. */
    private static final class Dealer {
        private static final int OFFERS = GRID + 1;

        private final Stock stock;
        private final Asker asker;
        private final int[] prices = new int[BOOKS];
        // WORTH less PRICE of what he TAKES; 0 of what he leaves.
        private final int[] gains = new int[BOOKS];
        private final int[] chances = new int[BOOKS];
        private final int[][] offerGains = new int[2][OFFERS];
        private final int[][] offerChances = new int[2][OFFERS];
        private int baitOne;
        private int baitOther;
        private int baitBrings;

        private Dealer(Stock stock, Asker asker) {
            this.stock = stock;
            this.asker = asker;
        }

        /** Of the BOOKS that are there (bits) those that he takes. */
        private int takes(int there, int weeks) {
            for (int book = 0; book < stock.books.count; book++) {
                gains[book] = 0;
                if ((there >> book & 1) == 1) {
                    asker.about(book, weeks);
                    gains[book] = gain();
                }
            }
            return greatestGains();
        }

        private int gain() {
            int gain = asker.words[Reader.WORTH_WORD] - asker.words[Reader.PRICE_WORD];
            return gain > 0 && asker.dealerTakes() ? gain : 0;
        }

        private int greatestGains() {
            int taken = 0;
            for (int hand = 0; hand < stock.terms[HANDS]; hand++) {
                int book = greatestLeft(taken);
                if (book == NONE) {
                    return taken;
                }
                taken |= 1 << book;
            }
            return taken;
        }

        private int greatestLeft(int taken) {
            int greatest = NONE;
            int most = 0;
            for (int book = 0; book < stock.books.count; book++) {
                if (gains[book] > most && (taken >> book & 1) == 0) {
                    greatest = book;
                    most = gains[book];
                }
            }
            return greatest;
        }

        private int pays(int taken) {
            int together = 0;
            for (int book = 0; book < stock.books.count; book++) {
                if ((taken >> book & 1) == 1) {
                    together += stock.books.get(book, PRICE);
                }
            }
            return together;
        }

        private void lookAtAll() {
            for (int book = 0; book < stock.books.count; book++) {
                asker.about(book, 0);
                prices[book] = stock.books.get(book, PRICE);
                gains[book] = gain();
                chances[book] = asker.sells();
            }
        }

        private int broughtTogether() {
            int taken = greatestGains();
            int together = 0;
            for (int book = 0; book < stock.books.count; book++) {
                together += prices[book] * ((taken >> book & 1) == 1 ? 100 : chances[book]);
            }
            return together;
        }

        private void bestBait(int one, int other) {
            lookAtAll();
            lookAtOffers(one, 0);
            lookAtOffers(other, 1);
            baitBrings = NONE;
            for (int i = 0; i < OFFERS; i++) {
                offer(one, 0, i);
                for (int j = 0; j < OFFERS; j++) {
                    offer(other, 1, j);
                    int together = broughtTogether();
                    if (together > baitBrings) {
                        baitOne = prices[one];
                        baitOther = prices[other];
                        baitBrings = together;
                    }
                }
            }
        }

        private void lookAtOffers(int book, int side) {
            asker.about(book, 0);
            for (int i = 0; i < OFFERS; i++) {
                asker.words[Reader.PRICE_WORD] = i * stock.terms[PRICES];
                offerGains[side][i] = gain();
                offerChances[side][i] = asker.sells();
            }
        }

        private void offer(int book, int side, int i) {
            prices[book] = i * stock.terms[PRICES];
            gains[book] = offerGains[side][i];
            chances[book] = offerChances[side][i];
        }
    }

    /** The latest WEEKS: the BOOKS by the numbers that they had then. */
    private static final class Diary {
        private final Stock stock;
        private final Asker asker;
        private final Dealer buyer;
        private final int[] goneIn = new int[BOOKS];
        private final int[] goneTo = new int[BOOKS];
        private int there;
        private int seed;

        private Diary(Stock stock, Asker asker, Dealer buyer) {
            this.stock = stock;
            this.asker = asker;
            this.buyer = buyer;
            Arrays.fill(goneIn, NONE);
            Arrays.fill(goneTo, NONE);
        }

        private int live(int firstSeed, int n) {
            seed = firstSeed;
            there = (1 << stock.books.count) - 1;
            Arrays.fill(goneIn, NONE);
            Arrays.fill(goneTo, NONE);
            int cameIn = 0;
            for (int week = 0; week < n; week++) {
                int taken = buyer.takes(there, week);
                leave(taken, week, 0);
                int sold = soldIn(week);
                leave(sold, week, 1);
                cameIn += buyer.pays(taken | sold);
            }
            return cameIn;
        }

        private void leave(int books, int week, int whom) {
            there &= ~books;
            for (int book = 0; book < BOOKS; book++) {
                if ((books >> book & 1) == 1) {
                    goneIn[book] = week;
                    goneTo[book] = whom;
                }
            }
        }

        private int soldIn(int week) {
            int crowd = crowdIn(week);
            int sold = 0;
            for (int book = 0; book < stock.books.count; book++) {
                if ((there >> book & 1) == 1) {
                    asker.about(book, week);
                    asker.words[Reader.CROWD_WORD] = crowd;
                    if (drawOfHundred() < asker.sells()) {
                        sold |= 1 << book;
                    }
                }
            }
            return sold;
        }

        private int crowdIn(int week) {
            int crowd = 0;
            for (int book = 0; book < stock.books.count; book++) {
                if ((there >> book & 1) == 1 && stock.books.get(book, PLACE) == TABLE) {
                    crowd += asker.drawsOnTable(book, week);
                }
            }
            return crowd;
        }

        private int drawOfHundred() {
            seed = (int) ((seed * 1103L + 12345) % 1000003);
            return seed % 100;
        }
    }
}
