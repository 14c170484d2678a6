import java.math.BigInteger;
import java.util.ArrayList;
import java.util.Arrays;
import java.util.List;
import java.util.TreeMap;

/** The document told once more in the plainest way, slow and with the library's help, to be compared with. */
final class PlainShop {
    private static final long NOTHING = -1000000000000000000L;

    /** What an IMAGE keeps. */
    private static final class State {
        List<int[]> books = new ArrayList<>();
        List<int[]> boxes = new ArrayList<>();
        List<int[]> cards = new ArrayList<>();
        List<Integer> octobers = new ArrayList<>();
        List<int[]> marks = new ArrayList<>();
        List<PlainLaw> laws = new ArrayList<>();
        int force = -1;
        int[] terms = {0, 0, 1, 0, 2, 10};

        State copy() {
            State copy = new State();
            for (int[] book : books) {
                copy.books.add(book.clone());
            }
            copy.boxes.addAll(boxes);
            copy.cards.addAll(cards);
            copy.octobers.addAll(octobers);
            copy.marks.addAll(marks);
            copy.laws.addAll(laws);
            copy.force = force;
            copy.terms = terms.clone();
            return copy;
        }
    }

    private State now = new State();
    private final State[] images = new State[2];
    private List<Integer> tape = new ArrayList<>();
    private int fault = -1;
    private int foxed;
    private int status;
    private final TreeMap<Integer, Integer> refusals = new TreeMap<>();
    private int[][] gone = new int[0][];

    private int refuse(int by) {
        status = by;
        refusals.merge(by, 1, Integer::sum);
        return by;
    }

    private int accept(int answer) {
        status = 0;
        return answer;
    }

    private static boolean in(int value, int least, int most) {
        return least <= value && value <= most;
    }

    private static boolean row(List<?> rows, int row) {
        return in(row, 0, rows.size() - 1);
    }

    int book(int kind, int worth, int age, int price, int place) {
        if (!in(kind, 0, 9) || !in(worth, 0, 999) || !in(age, 0, 99) || !in(price, 0, 999) || !in(place, 0, 2)) {
            return refuse(-1);
        }
        if (now.books.size() == 10) {
            return refuse(-5);
        }
        now.books.add(new int[] {kind, worth, age, price, place});
        return accept(now.books.size() - 1);
    }

    int put(int book, int what, int value) {
        int[] most = {9, 999, 99, 999, 2};
        if (!in(what, 0, 4) || !in(value, 0, most[what])) {
            return refuse(-1);
        }
        if (!row(now.books, book)) {
            return refuse(-2);
        }
        int before = now.books.get(book)[what];
        now.books.get(book)[what] = value;
        return accept(before);
    }

    int of(int book, int what) {
        return row(now.books, book) && in(what, 0, 4) ? now.books.get(book)[what] : -1;
    }

    private int remove(List<?> rows, int row) {
        if (!row(rows, row)) {
            return refuse(-2);
        }
        rows.remove(row);
        return accept(rows.size());
    }

    int drop(int book) {
        return remove(now.books, book);
    }

    int terms(int what, int value) {
        int[] most = {51, 1, 99, 999, 9, 99};
        if (!in(what, 0, 5) || !in(value, what == 5 ? 1 : 0, most[what])) {
            return refuse(-1);
        }
        int before = now.terms[what];
        now.terms[what] = value;
        return accept(before);
    }

    int feed(int a, int b, int c, int d, int e) {
        if (tape.size() > 380) {
            return -1;
        }
        for (int number : new int[] {a, b, c, d, e}) {
            for (byte one : BigInteger.valueOf(number & 0xffffffffL | 1L << 40).toByteArray()) {
                tape.add(one & 255);
            }
            // the two bytes ahead of the number itself
            tape.remove(tape.size() - 5);
            tape.remove(tape.size() - 5);
        }
        return tape.size();
    }

    int end(int n) {
        if (!in(n, 0, tape.size())) {
            return -1;
        }
        tape = new ArrayList<>(tape.subList(0, n));
        return n;
    }

    int row() {
        if (tape.isEmpty()) {
            return refuse(-6);
        }
        int came = 0;
        foxed = 0;
        List<Integer> left = tape;
        while (!left.isEmpty()) {
            List<Integer> one = left.subList(0, Math.min(3, left.size()));
            left = left.subList(one.size(), left.size());
            if (one.size() < 3 || one.get(0) > 9 || now.books.size() == 10) {
                foxed++;
            } else {
                now.books.add(new int[] {one.get(0), one.get(1), 0, one.get(2), 0});
                came++;
            }
        }
        tape = new ArrayList<>();
        return accept(came);
    }

    int foxed() {
        return foxed;
    }

    int law() {
        int[] text = tape.stream().mapToInt(Integer::intValue).toArray();
        tape = new ArrayList<>();
        if (now.laws.size() == 6) {
            return refuse(-5);
        }
        fault = PlainLaw.faultOf(text);
        if (fault >= 0) {
            return refuse(-6);
        }
        now.laws.add(new PlainLaw(text));
        return accept(now.laws.size() - 1);
    }

    int fault() {
        return fault;
    }

    int force(int law) {
        if (law != -1 && !row(now.laws, law)) {
            return refuse(-2);
        }
        int before = now.force;
        now.force = law;
        return accept(before);
    }

    private Long told(String head, int book, int price, int place, int weeks, int crowd, int since) {
        if (now.force == -1) {
            return null;
        }
        int[] b = now.books.get(book);
        long[] words = {book, b[0], b[1], b[2] + weeks, price, place,
            (now.terms[0] + weeks) % 52, now.terms[1], crowd, since};
        return now.laws.get(now.force).told(head, words);
    }

    private int sells(int book, int price, int place, int weeks, int crowd) {
        Long told = told("sells", book, price, place, weeks, crowd, 0);
        return told == null ? 10 : (int) Math.min(100, Math.max(0, told));
    }

    private int draws(int book, int weeks) {
        Long told = told("draws", book, now.books.get(book)[3], 1, weeks, 0, 0);
        return told == null ? 0 : (int) Math.min(99, Math.max(0, told));
    }

    private int wanted(int card, int book) {
        int[] b = now.books.get(book);
        Long told = told("wants", book, b[3], b[4], 0, 0, now.cards.get(card)[1]);
        return told == null ? 50 : (int) Math.min(100, Math.max(0, told));
    }

    private boolean taken(int book, int price, int weeks) {
        return told("takes", book, price, now.books.get(book)[4], weeks, 0, 0) != null;
    }

    int chance(int book, int price, int weeks, int crowd) {
        if (!row(now.books, book) || !in(price, 0, 2000) || !in(weeks, 0, 51) || !in(crowd, 0, 999)) {
            return -1;
        }
        return sells(book, price, now.books.get(book)[4], weeks, crowd);
    }

    int asks(int book, int what) {
        if (!row(now.books, book) || !in(what, 0, 1)) {
            return -1;
        }
        return what == 0 ? draws(book, 0) : taken(book, now.books.get(book)[3], 0) ? 1 : 0;
    }

    /** The MOST from that week on for a BOOK that stands at a PRICE, before anything is rubbed out. */
    private BigInteger most(int book, int week, int n, int price, BigInteger[][] known) {
        if (week == n) {
            return BigInteger.valueOf(now.terms[3]);
        }
        BigInteger best = left(book, week, n, price, known);
        for (int i = 1; i <= 20; i++) {
            best = best.max(left(book, week, n, i * now.terms[5], known).subtract(rub(week, n)));
        }
        return best;
    }

    private BigInteger rub(int week, int n) {
        return BigInteger.valueOf(now.terms[2]).multiply(BigInteger.valueOf(100).pow(n - week));
    }

    /** What it brings from that week on, if that PRICE stays this week. */
    private BigInteger left(int book, int week, int n, int price, BigInteger[][] known) {
        if (known[week][price] == null) {
            int chance = sells(book, price, now.books.get(book)[4], week, 0);
            BigInteger sold = BigInteger.valueOf((long) chance * price).multiply(BigInteger.valueOf(100).pow(n - week - 1));
            BigInteger not = BigInteger.valueOf(100 - chance).multiply(most(book, week + 1, n, price, known));
            known[week][price] = sold.add(not);
        }
        return known[week][price];
    }

    long write(int book, int n) {
        if (!row(now.books, book) || !in(n, 1, 6)) {
            return NOTHING;
        }
        return most(book, 0, n, now.books.get(book)[3], new BigInteger[6][2001]).longValueExact();
    }

    int pencil(int book, int n, int i) {
        if (!row(now.books, book) || !in(n, 1, 6) || !in(i, 0, n - 1)) {
            return -1;
        }
        BigInteger[][] known = new BigInteger[6][2001];
        int price = now.books.get(book)[3];
        for (int week = 0; week <= i; week++) {
            BigInteger most = most(book, week, n, price, known);
            if (left(book, week, n, price, known).equals(most)) {
                continue;
            }
            int g = 1;
            while (!left(book, week, n, g * now.terms[5], known).subtract(rub(week, n)).equals(most)) {
                g++;
            }
            price = g * now.terms[5];
        }
        return price;
    }

    long stands(int book, int n) {
        if (!row(now.books, book) || !in(n, 0, 6)) {
            return NOTHING;
        }
        long stands = 1;
        for (int week = 0; week < n; week++) {
            stands *= 100 - sells(book, now.books.get(book)[3], now.books.get(book)[4], week, 0);
        }
        return stands;
    }

    int box(int size, int good, int worth) {
        if (!in(size, 1, 20) || !in(good, 0, size) || !in(worth, 0, 9999)) {
            return refuse(-1);
        }
        if (now.boxes.size() == 12) {
            return refuse(-5);
        }
        now.boxes.add(new int[] {size, good, worth});
        return accept(now.boxes.size());
    }

    int unbox(int box) {
        return remove(now.boxes, box);
    }

    /** A fraction in lowest terms. */
    private record Part(BigInteger upper, BigInteger lower) {
        static final Part ZERO = new Part(BigInteger.ZERO, BigInteger.ONE);

        static Part of(long upper, long lower) {
            return new Part(BigInteger.valueOf(upper), BigInteger.valueOf(lower)).lowest();
        }

        Part lowest() {
            BigInteger common = upper.gcd(lower);
            return new Part(upper.divide(common), lower.divide(common));
        }

        Part plus(Part other) {
            return new Part(upper.multiply(other.lower).add(other.upper.multiply(lower)), lower.multiply(other.lower)).lowest();
        }

        Part less(Part other) {
            return plus(new Part(other.upper.negate(), other.lower));
        }

        Part times(Part other) {
            return new Part(upper.multiply(other.upper), lower.multiply(other.lower)).lowest();
        }

        Part over(Part other) {
            return times(new Part(other.lower, other.upper));
        }

        long tell(int what) {
            return (what == 0 ? upper : lower).longValueExact();
        }
    }

    /** How likely one of k books taken one after the other show g GOOD: by steps, not by a formula. */
    private static Part shows(int size, int good, int k, int g) {
        if (g < 0 || g > k) {
            return Part.ZERO;
        }
        Part[] likely = new Part[k + 1];
        Arrays.fill(likely, Part.ZERO);
        likely[0] = Part.of(1, 1);
        for (int drawn = 0; drawn < k; drawn++) {
            Part[] then = new Part[k + 1];
            Arrays.fill(then, Part.ZERO);
            for (int seen = 0; seen <= drawn; seen++) {
                int goodLeft = Math.max(0, good - seen);
                int left = size - drawn;
                if (likely[seen].upper.signum() > 0) {
                    then[seen + 1] = then[seen + 1].plus(likely[seen].times(Part.of(goodLeft, left)));
                    then[seen] = then[seen].plus(likely[seen].times(Part.of(left - goodLeft, left)));
                }
            }
            likely = then;
        }
        return likely[g];
    }

    /** The mean's upper part over the boxes and how likely in all they show that. */
    private Part[] showing(int size, int k, int g) {
        Part worth = Part.ZERO;
        Part likely = Part.ZERO;
        for (int[] box : now.boxes) {
            if (box[0] == size) {
                Part shows = shows(size, box[1], k, g);
                likely = likely.plus(shows);
                worth = worth.plus(shows.times(Part.of(box[2], 1)));
            }
        }
        return new Part[] {worth, likely};
    }

    long worth(int size, int k, int g, int what) {
        if (!in(what, 0, 1) || !in(size, 1, 20) || !in(k, 0, size) || !in(g, 0, k)) {
            return NOTHING;
        }
        Part[] showing = showing(size, k, g);
        return showing[1].upper.signum() == 0 ? NOTHING : showing[0].over(showing[1]).tell(what);
    }

    private Part gain(Part worth, int sum) {
        Part gain = worth.less(Part.of(sum, 1));
        return gain.upper.signum() < 0 ? Part.ZERO : gain;
    }

    long glance(int size, int k, int g, int sum, int what) {
        if (!in(what, 0, 1) || !in(sum, 0, 9999) || !in(size, 1, 20) || !in(k, 0, size - 1) || !in(g, 0, k)) {
            return NOTHING;
        }
        Part[] without = showing(size, k, g);
        if (without[1].upper.signum() == 0) {
            return NOTHING;
        }
        Part mean = Part.ZERO;
        for (int more = 0; more <= 1; more++) {
            // how likely the next one is GOOD (or not), by what has been seen
            Part likely = Part.ZERO;
            Part worth = Part.ZERO;
            for (int[] box : now.boxes) {
                int goodLeft = box[1] - g;
                int left = more == 1 ? goodLeft : size - k - goodLeft;
                if (box[0] == size && left > 0) {
                    Part one = shows(size, box[1], k, g).over(without[1]).times(Part.of(left, size - k));
                    likely = likely.plus(one);
                    worth = worth.plus(one.times(Part.of(box[2], 1)));
                }
            }
            if (likely.upper.signum() > 0) {
                mean = mean.plus(likely.times(gain(worth.over(likely), sum)));
            }
        }
        return mean.less(gain(without[0].over(without[1]), sum)).tell(what);
    }

    private int crowd(int table) {
        int crowd = 0;
        for (int book = 0; book < now.books.size(); book++) {
            crowd += (table >> book & 1) * draws(book, 0);
        }
        return crowd;
    }

    private boolean tableCanBe(int table) {
        for (int book = 0; book < 31; book++) {
            if ((table >> book & 1) == 1 && (book >= now.books.size() || now.books.get(book)[4] == 2)) {
                return false;
            }
        }
        return table >= 0;
    }

    long income(int table) {
        if (!tableCanBe(table)) {
            return NOTHING;
        }
        int crowd = crowd(table);
        long income = 0;
        for (int book = 0; book < now.books.size(); book++) {
            int[] b = now.books.get(book);
            int place = b[4] == 2 ? 2 : table >> book & 1;
            income += (long) b[3] * sells(book, b[3], place, 0, crowd);
        }
        return income;
    }

    int best(int m, int what) {
        if (!in(m, 0, 10) || !in(what, 0, 2)) {
            return -1;
        }
        TreeMap<Long, List<Integer>> tables = new TreeMap<>();
        for (int table = 0; table < 1 << now.books.size(); table++) {
            if (tableCanBe(table) && Integer.toBinaryString(table).chars().filter(c -> c == '1').count() <= m) {
                tables.computeIfAbsent(income(table), income -> new ArrayList<>()).add(table);
            }
        }
        List<Integer> best = tables.lastEntry().getValue();
        return what == 0 ? best.get(0) : what == 1 ? crowd(best.get(0)) : best.size();
    }

    int card(int kind, int since, int sum) {
        if (!in(kind, 0, 9) || !in(since, 0, 99) || !in(sum, 0, 999)) {
            return refuse(-1);
        }
        if (now.cards.size() == 8) {
            return refuse(-5);
        }
        now.cards.add(new int[] {kind, since, sum});
        return accept(now.cards.size() - 1);
    }

    int uncard(int card) {
        return remove(now.cards, card);
    }

    int wants(int card, int book) {
        return row(now.cards, card) && row(now.books, book) ? wanted(card, book) : -1;
    }

    private int bestKept;
    private int[] kept;

    /** Tries all rows of BOOKS by CARDS, NONE ahead of all. */
    private void tryKept(int card, int[] row, int pays, int[][] worths, int[] mostFrom) {
        if (kept != null && pays + mostFrom[card] <= bestKept) {
            return;
        }
        if (card == row.length) {
            bestKept = pays;
            kept = row.clone();
            return;
        }
        row[card] = -1;
        tryKept(card + 1, row, pays, worths, mostFrom);
        for (int book = 0; book < now.books.size(); book++) {
            int taken = book;
            if (worths[card][book] >= 0 && Arrays.stream(row, 0, card).noneMatch(one -> one == taken)) {
                row[card] = book;
                tryKept(card + 1, row, pays + worths[card][book], worths, mostFrom);
                row[card] = -1;
            }
        }
    }

    int keep(int card) {
        if (card != -1 && !row(now.cards, card)) {
            return -1;
        }
        int cards = now.cards.size();
        int[][] worths = new int[cards][now.books.size()];
        int[] mostFrom = new int[cards + 1];
        for (int c = cards - 1; c >= 0; c--) {
            for (int book = 0; book < now.books.size(); book++) {
                boolean fits = now.books.get(book)[0] == now.cards.get(c)[0];
                worths[c][book] = fits ? now.cards.get(c)[2] * wanted(c, book) : -1;
            }
            mostFrom[c] = mostFrom[c + 1] + Math.max(0, Arrays.stream(worths[c]).max().orElse(0));
        }
        kept = null;
        bestKept = -1;
        tryKept(0, new int[cards], 0, worths, mostFrom);
        return card == -1 ? bestKept : kept[card];
    }

    private List<Integer> dealt(List<Integer> there, int[] prices, int weeks) {
        List<Integer> wanted = new ArrayList<>();
        for (int book : there) {
            if (now.books.get(book)[1] > prices[book] && taken(book, prices[book], weeks)) {
                wanted.add(book);
            }
        }
        wanted.sort((one, other) -> {
            int gains = Integer.compare(now.books.get(other)[1] - prices[other], now.books.get(one)[1] - prices[one]);
            return gains != 0 ? gains : Integer.compare(one, other);
        });
        return wanted.subList(0, Math.min(now.terms[4], wanted.size()));
    }

    private List<Integer> all() {
        List<Integer> all = new ArrayList<>();
        for (int book = 0; book < now.books.size(); book++) {
            all.add(book);
        }
        return all;
    }

    private int[] prices() {
        return now.books.stream().mapToInt(book -> book[3]).toArray();
    }

    int dealer(int what) {
        if (!in(what, 0, 1)) {
            return -1;
        }
        int answer = 0;
        for (int book : dealt(all(), prices(), 0)) {
            answer += what == 0 ? 1 << book : now.books.get(book)[3];
        }
        return answer;
    }

    private int brought(int[] prices) {
        List<Integer> dealt = dealt(all(), prices, 0);
        int brought = 0;
        for (int book = 0; book < prices.length; book++) {
            brought += prices[book] * (dealt.contains(book) ? 100 : sells(book, prices[book], now.books.get(book)[4], 0, 0));
        }
        return brought;
    }

    int brings() {
        return brought(prices());
    }

    int bait(int one, int other, int what) {
        if (!row(now.books, one) || !row(now.books, other) || one == other || !in(what, 0, 2)) {
            return -1;
        }
        int[] best = null;
        for (int i = 20; i >= 0; i--) {
            for (int j = 20; j >= 0; j--) {
                int[] prices = prices();
                prices[one] = i * now.terms[5];
                prices[other] = j * now.terms[5];
                int brought = brought(prices);
                if (best == null || brought >= best[2]) {
                    best = new int[] {prices[one], prices[other], brought};
                }
            }
        }
        return best[what];
    }

    int october(int copies) {
        if (!in(copies, 0, 999)) {
            return refuse(-1);
        }
        if (now.octobers.size() == 10) {
            return refuse(-5);
        }
        now.octobers.add(copies);
        return accept(now.octobers.size());
    }

    int forget() {
        int were = now.octobers.size();
        now.octobers.clear();
        return were;
    }

    long june(int n, int a, int b, int c) {
        if (!in(n, 0, 999) || !in(a, 0, 999) || !in(b, 0, 999) || !in(c, 0, 999) || now.octobers.isEmpty()) {
            return NOTHING;
        }
        long brings = 0;
        for (int copies : now.octobers) {
            brings -= (long) n * a;
            brings += copies >= n ? (long) n * b : (long) copies * b + (long) (n - copies) * c;
        }
        return brings;
    }

    int copies(int a, int b, int c) {
        if (june(0, a, b, c) == NOTHING) {
            return -1;
        }
        int best = 999;
        for (int n = 999; n >= 0; n--) {
            best = june(n, a, b, c) >= june(best, a, b, c) ? n : best;
        }
        return best;
    }

    int mark(int first, int others) {
        if (!in(first, 0, 100) || !in(others, 0, 100)) {
            return refuse(-1);
        }
        if (now.marks.size() == 6) {
            return refuse(-5);
        }
        now.marks.add(new int[] {first, others});
        return accept(now.marks.size() - 1);
    }

    int clear() {
        int were = now.marks.size();
        now.marks.clear();
        return were;
    }

    private Part show(int marks, int column) {
        Part show = Part.of(1, 1);
        for (int mark = 0; mark < now.marks.size(); mark++) {
            int hundred = now.marks.get(mark)[column];
            show = show.times(Part.of((marks >> mark & 1) == 1 ? hundred : 100 - hundred, 100));
        }
        return show;
    }

    /** null, if neither could show that. */
    private Part likelihood(int marks, int prior) {
        Part first = show(marks, 0).times(Part.of(prior, 100));
        Part all = first.plus(show(marks, 1).times(Part.of(100 - prior, 100)));
        return all.upper.signum() == 0 ? null : first.over(all);
    }

    long likely(int marks, int prior, int what) {
        if (marks < 0 || marks >= Math.pow(2, now.marks.size()) || !in(prior, 0, 100) || !in(what, 0, 1)) {
            return NOTHING;
        }
        Part likely = likelihood(marks, prior);
        return likely == null ? NOTHING : likely.tell(what);
    }

    long errors(int prior, int line, int what) {
        if (!in(prior, 0, 100) || !in(line, 0, 100) || !in(what, 0, 1)) {
            return NOTHING;
        }
        Part errors = Part.ZERO;
        for (int marks = 0; marks < 1 << now.marks.size(); marks++) {
            Part likely = likelihood(marks, prior);
            boolean called = likely != null && likely.less(Part.of(line, 100)).upper.signum() >= 0;
            if (called == (what == 1)) {
                errors = errors.plus(show(marks, what));
            }
        }
        BigInteger whole = BigInteger.valueOf(100).pow(now.marks.size());
        return errors.times(new Part(whole, BigInteger.ONE)).upper.longValueExact();
    }

    int weeks(int seed, int n) {
        if (!in(seed, 0, 1000000) || !in(n, 1, 40)) {
            return refuse(-1);
        }
        long s = seed;
        List<Integer> there = all();
        gone = new int[now.books.size()][];
        int cameIn = 0;
        for (int week = 0; week < n; week++) {
            for (int book : dealt(there, prices(), week)) {
                gone[book] = new int[] {week, 0};
                cameIn += now.books.get(book)[3];
            }
            there.removeIf(book -> gone[book] != null);
            int crowd = 0;
            for (int book : there) {
                crowd += now.books.get(book)[4] == 1 ? draws(book, week) : 0;
            }
            for (int book : there) {
                s = (s * 1103 + 12345) % 1000003;
                int[] b = now.books.get(book);
                if (s % 100 < sells(book, b[3], b[4], week, crowd)) {
                    gone[book] = new int[] {week, 1};
                    cameIn += b[3];
                }
            }
            there.removeIf(book -> gone[book] != null);
        }
        return accept(cameIn);
    }

    int gone(int book, int what) {
        return in(book, 0, gone.length - 1) && in(what, 0, 1) && gone[book] != null ? gone[book][what] : -1;
    }

    int image(int k) {
        if (!in(k, 0, 1)) {
            return refuse(-1);
        }
        images[k] = now.copy();
        return accept(0);
    }

    int back(int k) {
        if (!in(k, 0, 1)) {
            return refuse(-1);
        }
        if (images[k] == null) {
            return refuse(-2);
        }
        now = images[k].copy();
        return accept(0);
    }

    int count(int what) {
        int[] counts = {now.books.size(), now.laws.size(), now.boxes.size(), now.cards.size(), now.octobers.size(),
            now.marks.size(), tape.size(), refusals.getOrDefault(-1, 0), refusals.getOrDefault(-2, 0),
            refusals.getOrDefault(-5, 0), refusals.getOrDefault(-6, 0), now.force,
            now.terms[0], now.terms[1], now.terms[2], now.terms[3], now.terms[4], now.terms[5]};
        return in(what, 0, counts.length - 1) ? counts[what] : -1;
    }

    int status() {
        return status;
    }
}
