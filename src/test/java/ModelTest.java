import java.util.Random;

/** Random runs, each call compared with what the plain model answers. */
public final class ModelTest {
    private static final String[] PARTS =
            {"book", "kind", "worth", "age", "price", "place", "week", "rain", "crowd", "since"};

    // Which of the calls in one() a run mostly makes, so that it comes far with them.
    private static final int[][] FOCUS = {
        {22, 23, 24, 25, 26, 27}, {0, 1, 2, 3, 6, 7, 10, 36, 37, 38}, {0, 1, 2, 3, 6, 10, 28, 29, 30},
        {0, 1, 2, 6, 10, 31, 32, 33, 34, 35}, {0, 1, 2, 3, 6, 8, 10, 43, 44, 45, 46}, {0, 3, 7, 8, 10, 20, 21},
        {39, 40}, {41, 42}, {0, 9, 10, 11, 14, 45, 46, 6}, {0, 10, 11, 12, 13, 14, 15, 16, 17, 18, 19}
    };

    private static final String[] SENSIBLE = {
        "takes", "takes if price<worth", "takes if kind<3 or rain=1", "takes if price*2<worth and not week/4*4=week",
        "sells 100-price/10", "sells 80-price*50/worth", "sells 20+crowd-price/50", "sells crowd if place=1",
        "sells 60-age/2 if place>0 or rain=1", "sells 5*[book+1]+week", "sells 1000/[price-100] if price>100",
        "draws 7+kind", "draws worth/20-price/30", "draws 20 if place=1 and rain=0", "draws age/3",
        "wants 100-since", "wants 90-since*2+price/20 if since<30 or kind=1", "wants 100 if worth>price"
    };

    private final Checks checks = new Checks();
    private final Random random;
    private final int run;
    private final StringBuilder told = new StringBuilder();
    private PencilPrice real;
    private PlainShop plain;
    private int kinds;

    private ModelTest(int run) {
        this.run = run;
        this.random = new Random(run);
    }

    public static void main(String[] args) {
        int runs = args.length > 0 ? Integer.parseInt(args[0]) : 400;
        boolean wrong = false;
        for (int run = 0; run < runs && !wrong; run++) {
            ModelTest test = new ModelTest(run);
            test.go();
            wrong = test.checks.anyWrong();
        }
        System.out.println(runs + " runs, " + (wrong ? "wrong" : "all as the model"));
        if (wrong) {
            System.exit(1);
        }
    }

    private void go() {
        real = new PencilPrice();
        plain = new PlainShop();
        kinds = 1 + random.nextInt(5);
        for (int call = 0; call < 500; ) {
            call += one();
        }
        if (checks.anyWrong()) {
            System.out.println("run " + run + ":\n" + told);
        }
    }

    private int upTo(int n) {
        return random.nextInt(n + 1);
    }

    /** A number from least to most, now and then one beside it. */
    private int any(int least, int most) {
        switch (random.nextInt(60)) {
            case 0:
                return least - 1;
            case 1:
                return most + 1;
            case 2:
                return random.nextInt();
            case 3:
                return least;
            case 4:
                return most;
            case 5:
                return random.nextBoolean() ? Integer.MAX_VALUE : Integer.MIN_VALUE;
            default:
                return least + random.nextInt(most - least + 1);
        }
    }

    private int aSize() {
        return random.nextInt(4) > 0 ? 3 + run % 15 : any(1, 20);
    }

    private int aBook() {
        return any(0, Math.max(0, plain.count(0) - 1));
    }

    private int aPrice() {
        return random.nextInt(3) == 0 ? 10 * upTo(99) : any(0, 999);
    }

    private void same(String call, long want, long got) {
        told.append(call).append(" = ").append(got);
        if (want != got) {
            told.append(" BUT ").append(want);
        }
        told.append('\n');
        checks.due("run " + run + " " + call, want, got);
    }

    private static String call(String name, int... with) {
        String all = java.util.Arrays.toString(with);
        return name + "(" + all.substring(1, all.length() - 1) + ")";
    }

    private int one() {
        int a;
        int b;
        int c;
        int d;
        int e;
        int calls = 1;
        int[] focus = FOCUS[run % FOCUS.length];
        switch (random.nextInt(3) > 0 ? focus[random.nextInt(focus.length)] : random.nextInt(48)) {
            case 0: case 1: case 2:
                a = random.nextInt(30) == 0 ? any(0, 9) : upTo(kinds);
                b = any(0, 999);
                c = any(0, 99);
                d = aPrice();
                e = any(0, 2);
                same(call("book", a, b, c, d, e), plain.book(a, b, c, d, e), real.book(a, b, c, d, e));
                break;
            case 3: case 4:
                a = aBook();
                b = any(0, 4);
                c = b == 0 ? upTo(kinds) : b == 4 ? any(0, 2) : b == 2 ? any(0, 99) : any(0, 999);
                same(call("put", a, b, c), plain.put(a, b, c), real.put(a, b, c));
                break;
            case 5:
                a = aBook();
                b = any(0, 4);
                same(call("of", a, b), plain.of(a, b), real.of(a, b));
                break;
            case 6:
                a = random.nextInt(3) == 0 ? aBook() : any(0, 20);
                same(call("drop", a), plain.drop(a), real.drop(a));
                break;
            case 7: case 8:
                a = any(0, 5);
                int[] most = {51, 1, 99, 999, 9, 99};
                b = a < 0 || a > 5 ? 0 : any(a == 5 ? 1 : 0, a == 2 && random.nextBoolean() ? 3 : most[a]);
                same(call("terms", a, b), plain.terms(a, b), real.terms(a, b));
                break;
            case 9:
                calls = feed(bytes());
                same("row()", plain.row(), real.row());
                same("foxed()", plain.foxed(), real.foxed());
                break;
            case 10: case 11: case 12: case 13:
                String text = new Texts(random).text();
                told.append(text).append('\n');
                calls = feed(text);
                same("law()", plain.law(), real.law());
                same("fault()", plain.fault(), real.fault());
                a = plain.count(1) - 1;
                if (random.nextBoolean()) {
                    same(call("force", a), plain.force(a), real.force(a));
                }
                break;
            case 14:
                a = any(-1, Math.max(0, plain.count(1) - 1));
                same(call("force", a), plain.force(a), real.force(a));
                break;
            case 15: case 16: case 17:
                a = aBook();
                b = any(0, 2000);
                c = any(0, 51);
                d = any(0, 999);
                same(call("chance", a, b, c, d), plain.chance(a, b, c, d), real.chance(a, b, c, d));
                break;
            case 18: case 19:
                a = aBook();
                b = any(0, 1);
                same(call("asks", a, b), plain.asks(a, b), real.asks(a, b));
                break;
            case 20: case 21:
                a = aBook();
                b = any(1, 6);
                c = any(0, Math.max(0, Math.min(5, b - 1)));
                same(call("write", a, b), plain.write(a, b), real.write(a, b));
                same(call("pencil", a, b, c), plain.pencil(a, b, c), real.pencil(a, b, c));
                same(call("stands", a, b), plain.stands(a, b), real.stands(a, b));
                break;
            case 22: case 23:
                a = aSize();
                b = any(0, Math.max(0, Math.min(20, a)));
                c = any(0, random.nextBoolean() ? 100 : 9999);
                same(call("box", a, b, c), plain.box(a, b, c), real.box(a, b, c));
                break;
            case 24:
                a = any(0, 20);
                same(call("unbox", a), plain.unbox(a), real.unbox(a));
                break;
            case 25: case 26: case 27:
                glances();
                break;
            case 28: case 29: case 30:
                a = any(0, (1 << plain.count(0)) - 1);
                same(call("income", a), plain.income(a), real.income(a));
                if (random.nextInt(4) == 0) {
                    a = any(0, 10);
                    b = any(0, 2);
                    same(call("best", a, b), plain.best(a, b), real.best(a, b));
                }
                break;
            case 31: case 32:
                a = random.nextInt(30) == 0 ? any(0, 9) : upTo(kinds);
                b = any(0, 99);
                c = random.nextInt(4) == 0 ? upTo(3) : any(0, 999);
                same(call("card", a, b, c), plain.card(a, b, c), real.card(a, b, c));
                break;
            case 33:
                a = any(0, 20);
                same(call("uncard", a), plain.uncard(a), real.uncard(a));
                a = any(0, Math.max(0, plain.count(3) - 1));
                b = aBook();
                same(call("wants", a, b), plain.wants(a, b), real.wants(a, b));
                break;
            case 34: case 35:
                a = any(-1, Math.max(0, plain.count(3) - 1));
                same(call("keep", a), plain.keep(a), real.keep(a));
                break;
            case 36: case 37:
                a = any(0, 1);
                same(call("dealer", a), plain.dealer(a), real.dealer(a));
                same("brings()", plain.brings(), real.brings());
                break;
            case 38:
                a = aBook();
                b = aBook();
                c = any(0, 2);
                same(call("bait", a, b, c), plain.bait(a, b, c), real.bait(a, b, c));
                break;
            case 39: case 40:
                octobers();
                break;
            case 41: case 42:
                marks();
                break;
            case 43: case 44:
                a = any(0, 1000000);
                b = any(1, random.nextBoolean() ? 3 : 40);
                same(call("weeks", a, b), plain.weeks(a, b), real.weeks(a, b));
                for (int i = 0; i < 3; i++) {
                    a = any(0, 9);
                    b = any(0, 1);
                    same(call("gone", a, b), plain.gone(a, b), real.gone(a, b));
                }
                break;
            case 45:
                a = any(0, 1);
                same(call("image", a), plain.image(a), real.image(a));
                break;
            case 46:
                a = any(0, 1);
                same(call("back", a), plain.back(a), real.back(a));
                a = any(0, 9);
                b = any(0, 1);
                same(call("gone", a, b), plain.gone(a, b), real.gone(a, b));
                break;
            default:
                a = any(0, 17);
                same(call("count", a), plain.count(a), real.count(a));
        }
        same("status()", plain.status(), real.status());
        return calls + 3;
    }

    private void glances() {
        int size = aSize();
        int k = any(0, Math.max(0, Math.min(5, size)));
        int g = any(0, Math.max(0, Math.min(20, k)));
        int sum = any(0, random.nextBoolean() ? 100 : 9999);
        for (int what = 0; what <= 1; what++) {
            same(call("worth", size, k, g, what), plain.worth(size, k, g, what), real.worth(size, k, g, what));
            same(call("glance", size, k, g, sum, what),
                    plain.glance(size, k, g, sum, what), real.glance(size, k, g, sum, what));
        }
        int what = any(0, 1);
        same(call("worth", size, k, g, what), plain.worth(size, k, g, what), real.worth(size, k, g, what));
    }

    private void octobers() {
        int copies = any(0, 999);
        same(call("october", copies), plain.october(copies), real.october(copies));
        int n = any(0, 999);
        int span = random.nextBoolean() ? 5 : 999;
        int a = any(0, span);
        int b = any(0, span);
        int c = any(0, span);
        same(call("june", n, a, b, c), plain.june(n, a, b, c), real.june(n, a, b, c));
        same(call("copies", a, b, c), plain.copies(a, b, c), real.copies(a, b, c));
        if (random.nextInt(8) == 0) {
            same("forget()", plain.forget(), real.forget());
        }
    }

    private void marks() {
        int first = random.nextInt(4) == 0 ? 100 * upTo(1) : any(0, 100);
        int others = random.nextInt(4) == 0 ? 100 * upTo(1) : any(0, 100);
        same(call("mark", first, others), plain.mark(first, others), real.mark(first, others));
        int marks = any(0, (1 << plain.count(5)) - 1);
        int prior = any(0, 100);
        int line = any(0, 100);
        int what = any(0, 1);
        same(call("likely", marks, prior, what), plain.likely(marks, prior, what), real.likely(marks, prior, what));
        same(call("errors", prior, line, what), plain.errors(prior, line, what), real.errors(prior, line, what));
        if (random.nextInt(8) == 0) {
            same("clear()", plain.clear(), real.clear());
        }
    }

    private String bytes() {
        StringBuilder bytes = new StringBuilder();
        int length = upTo(30);
        for (int i = 0; i < length; i++) {
            bytes.append((char) (i % 3 == 0 && random.nextInt(8) > 0 ? upTo(kinds) : upTo(255)));
        }
        return bytes.toString();
    }

    /** How many calls that took. */
    private int feed(String text) {
        int calls = 0;
        for (int at = 0; at < text.length(); at += 20) {
            int[] five = new int[5];
            for (int i = 0; i < 20; i++) {
                five[i / 4] = five[i / 4] << 8 | (at + i < text.length() ? text.charAt(at + i) : ' ');
            }
            same(call("feed", five), plain.feed(five[0], five[1], five[2], five[3], five[4]),
                    real.feed(five[0], five[1], five[2], five[3], five[4]));
            calls++;
        }
        if (random.nextInt(10) > 0) {
            int n = Math.min(text.length(), plain.count(6));
            same(call("end", n), plain.end(n), real.end(n));
        } else {
            int n = any(0, 400);
            same(call("end", n), plain.end(n), real.end(n));
        }
        return calls + 1;
    }

    /** Texts that are laws, or nearly. */
    private static final class Texts {
        private final Random random;
        private int parts;

        Texts(Random random) {
            this.random = random;
        }

        String text() {
            String text;
            do {
                parts = random.nextInt(8) == 0 ? 60 : 40;
                int clauses = random.nextInt(12) == 0 ? 10 + random.nextInt(4) : 1 + random.nextInt(6);
                StringBuilder all = new StringBuilder();
                for (int i = 0; i < clauses; i++) {
                    all.append(i > 0 ? "; " : "").append(clause(clauses > 8 ? 0 : 3));
                }
                text = spread(all.toString());
            } while (text.length() > 400);
            return random.nextInt(5) == 0 ? spoilt(text) : text;
        }

        private String clause(int depth) {
            if (random.nextInt(3) == 0) {
                return SENSIBLE[random.nextInt(SENSIBLE.length)];
            }
            String[] heads = {"sells", "sells", "draws", "wants", "takes"};
            String head = heads[random.nextInt(5)];
            String clause = head.equals("takes") ? head : head + " " + sum(depth);
            return random.nextInt(3) > 0 ? clause + " if " + test(depth) : clause;
        }

        private String test(int depth) {
            String test = plain(depth);
            for (int i = random.nextInt(5) == 0 ? 4 : random.nextInt(3); i > 0; i--) {
                test = test + (random.nextBoolean() ? " and " : " or ") + plain(depth);
            }
            return test;
        }

        private String plain(int depth) {
            int way = random.nextInt(6);
            if (way == 0) {
                return "not " + plain(depth);
            }
            if (way < 3 && depth > 0) {
                return "(" + test(depth - 1) + ")";
            }
            return sum(depth > 1 ? 1 : 0) + "<>=".charAt(random.nextInt(3)) + sum(depth > 1 ? 1 : 0);
        }

        private String sum(int depth) {
            StringBuilder sum = new StringBuilder(part(depth));
            for (int i = random.nextInt(6) == 0 ? 4 : random.nextInt(3); i > 0; i--) {
                sum.append("+-*/*+-".charAt(random.nextInt(7))).append(part(depth));
            }
            return sum.toString();
        }

        private String part(int depth) {
            parts--;
            if (depth > 0 && random.nextInt(4) == 0 && parts > 0) {
                return "[" + sum(depth - 1) + "]";
            }
            if (random.nextInt(2) == 0 || parts < 0) {
                int[] most = {1, 3, 10, 50, 100, 1000, 1003};
                return String.valueOf(random.nextInt(most[random.nextInt(7)] + 1));
            }
            return PARTS[random.nextInt(PARTS.length)];
        }

        private String spread(String text) {
            StringBuilder spread = new StringBuilder();
            for (int i = 0; i < text.length(); i++) {
                char sign = text.charAt(i);
                boolean word = sign >= 'a' && sign <= 'z' || sign >= '0' && sign <= '9';
                if (!word && random.nextInt(12) == 0) {
                    spread.append(' ');
                }
                spread.append(sign);
            }
            return random.nextInt(10) == 0 ? spread + "  " : spread.toString();
        }

        private String spoilt(String text) {
            StringBuilder spoilt = new StringBuilder(text);
            String signs = "()[]<>=+-*/;xA0 \u0000\u00ff9\n";
            for (int i = random.nextInt(3); i >= 0 && spoilt.length() > 1; i--) {
                int at = random.nextInt(spoilt.length());
                switch (random.nextInt(5)) {
                    case 0:
                        spoilt.setLength(at);
                        break;
                    case 1:
                        spoilt.deleteCharAt(at);
                        break;
                    case 2:
                        spoilt.insert(at, signs.charAt(random.nextInt(signs.length())));
                        break;
                    case 3:
                        int to = Math.min(spoilt.length(), at + random.nextInt(30));
                        spoilt.insert(random.nextInt(spoilt.length()), spoilt.substring(at, to));
                        break;
                    default:
                        String bracket = random.nextBoolean() ? "(" : "[";
                        int where = spoilt.indexOf(bracket);
                        spoilt.insert(where < 0 ? at : where, bracket.repeat(1 + random.nextInt(9)));
                }
            }
            return spoilt.length() > 400 ? spoilt.substring(0, 400) : spoilt.toString();
        }
    }
}
