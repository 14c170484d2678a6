/** For each promise: ordinary inputs, the edges that the document names, wrong inputs; the answers reckoned by hand. */
public final class PromisesTest {
    private static final int NONE = PencilPrice.NONE;
    private static final long NOTHING = PencilPrice.NOTHING;
    private static final Checks checks = new Checks();
    private static PencilPrice x;

    public static void main(String[] args) {
        newObject();
        booksAndTerms();
        tapeAndRows();
        lawsAndFaults();
        limitsOfLaws();
        answersOfLaws();
        brokenLaws();
        writing();
        boxes();
        tables();
        cards();
        dealer();
        octobers();
        marks();
        weeks();
        images();
        countsAndStatus();
        checks.end();
    }

    private static void due(String call, long want, long got) {
        checks.due(call, want, got);
    }

    private static void feed(String text) {
        for (int at = 0; at < text.length(); at += 20) {
            int[] five = new int[5];
            for (int i = 0; i < 20; i++) {
                five[i / 4] = five[i / 4] << 8 | (at + i < text.length() ? text.charAt(at + i) : 0);
            }
            x.feed(five[0], five[1], five[2], five[3], five[4]);
        }
        due("end of " + text, text.length(), x.end(text.length()));
    }

    private static int law(String text) {
        feed(text);
        return x.law();
    }

    /** A TEXT has its FAULT there. */
    private static void faulty(int place, String text) {
        x = new PencilPrice();
        due("law " + text, -6, law(text));
        due("fault of " + text, place, x.fault());
        due("TAPE behind " + text, 0, x.count(6));
        due("LAWS behind " + text, 0, x.count(1));
    }

    private static void sound(String text) {
        x = new PencilPrice();
        due("law " + text, 0, law(text));
        due("fault of " + text, NONE, x.fault());
        due("TAPE behind " + text, 0, x.count(6));
    }

    /** A new shop with that LAW in FORCE. */
    private static void shop(String text) {
        sound(text);
        x.force(0);
    }

    private static void newObject() {
        // Promise 1
        x = new PencilPrice();
        for (int what = 0; what <= 10; what++) {
            due("count " + what + " of a new one", 0, x.count(what));
        }
        due("LAW of a new one", NONE, x.count(11));
        int[] terms = {0, 0, 1, 0, 2, 10};
        for (int what = 0; what < 6; what++) {
            due("TERM " + what + " of a new one", terms[what], x.count(12 + what));
        }
        due("status of a new one", 0, x.status());
        due("fault of a new one", NONE, x.fault());
        due("foxed of a new one", 0, x.foxed());
        due("gone of a new one", NONE, x.gone(0, 0));
        due("of a new one", NONE, x.of(0, 0));
    }

    private static void booksAndTerms() {
        // Promise 2: book
        x = new PencilPrice();
        due("book", 0, x.book(9, 999, 99, 999, 2));
        due("book", 1, x.book(0, 0, 0, 0, 0));
        int[][] wrong = {{10, 0, 0, 0, 0}, {-1, 0, 0, 0, 0}, {0, 1000, 0, 0, 0}, {0, -1, 0, 0, 0}, {0, 0, 100, 0, 0},
            {0, 0, -1, 0, 0}, {0, 0, 0, 1000, 0}, {0, 0, 0, -1, 0}, {0, 0, 0, 0, 3}, {0, 0, 0, 0, -1}};
        for (int[] w : wrong) {
            due("wrong book", -1, x.book(w[0], w[1], w[2], w[3], w[4]));
        }
        for (int i = 2; i < 10; i++) {
            due("book", i, x.book(i, i, i, i, 1));
        }
        due("11th book", -5, x.book(0, 0, 0, 0, 0));
        due("wrong 11th book", -1, x.book(0, 0, 0, 0, 3));
        // Promise 3: put, promise 4: of
        int[] first = {9, 999, 99, 999, 2};
        for (int what = 0; what < 5; what++) {
            due("of", first[what], x.of(0, what));
            due("put", first[what], x.put(0, what, what == 4 ? 1 : 7));
            due("of", what == 4 ? 1 : 7, x.of(0, what));
            due("put back", what == 4 ? 1 : 7, x.put(0, what, first[what]));
            due("put too much", -1, x.put(0, what, first[what] + 1));
            due("put too little", -1, x.put(0, what, -1));
            due("of", first[what], x.of(0, what));
        }
        due("put what", -1, x.put(0, 5, 0));
        due("put what", -1, x.put(0, -1, 0));
        due("put no book", -2, x.put(10, 0, 0));
        due("put no book", -2, x.put(-1, 0, 0));
        due("put no book, no value", -1, x.put(10, 0, 10));
        due("of what", NONE, x.of(0, 5));
        due("of what", NONE, x.of(0, -1));
        due("of no book", NONE, x.of(10, 0));
        due("of no book", NONE, x.of(-1, 0));
        // Promise 5: drop
        due("drop", 9, x.drop(1));
        due("moved up", 2, x.of(1, 0));
        due("moved up", 9, x.of(8, 3));
        due("stays", 9, x.of(0, 0));
        due("gone", NONE, x.of(9, 0));
        due("drop the last", 8, x.drop(8));
        due("drop none", -2, x.drop(8));
        due("drop none", -2, x.drop(-1));
        due("drop none", -2, x.drop(Integer.MAX_VALUE));
        // Promise 6: terms
        int[] start = {0, 0, 1, 0, 2, 10};
        int[] least = {0, 0, 0, 0, 0, 1};
        int[] most = {51, 1, 99, 999, 9, 99};
        for (int what = 0; what < 6; what++) {
            due("terms", start[what], x.terms(what, most[what]));
            due("terms", most[what], x.terms(what, least[what]));
            due("terms", -1, x.terms(what, most[what] + 1));
            due("terms", -1, x.terms(what, least[what] - 1));
            due("terms", least[what], x.count(12 + what));
        }
        due("terms", -1, x.terms(6, 1));
        due("terms", -1, x.terms(-1, 1));
    }

    private static void tapeAndRows() {
        // Promise 7: feed, 8: end
        x = new PencilPrice();
        for (int i = 1; i <= 20; i++) {
            due("feed", 20 * i, x.feed(1, 2, 3, 4, 5));
        }
        due("feed too much", NONE, x.feed(1, 2, 3, 4, 5));
        due("bytes", 400, x.count(6));
        due("end", NONE, x.end(401));
        due("end", NONE, x.end(-1));
        due("bytes", 400, x.count(6));
        due("end", 381, x.end(381));
        due("feed too much", NONE, x.feed(1, 2, 3, 4, 5));
        due("end", 380, x.end(380));
        due("feed", 400, x.feed(1, 2, 3, 4, 5));
        due("end", 0, x.end(0));
        due("end", NONE, x.end(1));
        due("status of none of these", 0, x.status());
        // Promise 9: row, 10: foxed
        due("row of nothing", -6, x.row());
        due("foxed", 0, x.foxed());
        // 09 ff fe | 0a 01 01 | 00 00 00 | 80 01 02 | 03 (its end)
        due("feed", 20, x.feed(0x09fffe0a, 0x01010000, 0x00800102, 0x03ffffff, -1));
        due("end", 13, x.end(13));
        due("row", 2, x.row());
        due("foxed", 3, x.foxed());
        due("TAPE", 0, x.count(6));
        int[] came = {9, 255, 0, 254, 0};
        for (int what = 0; what < 5; what++) {
            due("of the row's first", came[what], x.of(0, what));
            due("of the row's second", 0, x.of(1, what));
        }
        due("row of nothing", -6, x.row());
        due("foxed as before", 3, x.foxed());
        x.feed(0, 0, 0, 0, 0);
        x.feed(0, 0, 0, 0, 0);
        due("row beyond ten", 8, x.row());
        due("foxed", 6, x.foxed());
        due("books", 10, x.count(0));
        x.feed(0, 0, 0, 0, 0);
        x.end(3);
        due("row without room", 0, x.row());
        due("its status", 0, x.status());
        due("foxed", 1, x.foxed());
    }

    private static void lawsAndFaults() {
        // Promise 11: law, 12: fault
        sound("takes");
        sound(" sells 1 ");
        sound("sells10if1=1;draws 2;wants price*[worth+1]/2-age");
        sound("takes if not not(1=1)and(2>1 or not 3<book)and kind<place or week=rain and crowd>since");
        sound("sells 1000; sells 0001000");
        sound("sells [[[1]]]*[2]");
        faulty(0, "");
        faulty(3, "   ");
        faulty(0, "foo");
        faulty(0, "Sells 1");
        faulty(0, "sellsx 1");
        faulty(0, "sellsz 1");
        faulty(0, "asells 1");
        faulty(5, "sells{1");
        faulty(5, "sells`1");
        faulty(7, "sells 1:2");
        faulty(8, "sells 1/:2");
        faulty(0, "sel ls 1");
        faulty(0, ";");
        faulty(0, "if 1=1");
        faulty(6, "takes;");
        faulty(7, "takes; ");
        faulty(6, "takes 1");
        faulty(6, "takes;;takes");
        faulty(5, "sells");
        faulty(6, "sells if 1=1");
        faulty(6, "sells (1)");
        faulty(6, "sells -1");
        faulty(6, "sells 1001");
        faulty(6, "sells 99999999999999999999");
        faulty(8, "sells 1 2");
        faulty(7, "sells 1)");
        faulty(7, "sells 1]");
        faulty(8, "sells [1");
        faulty(8, "sells [1)");
        faulty(7, "sells []");
        faulty(8, "sells 1+");
        faulty(8, "sells 1+*2");
        faulty(7, "sells 1=1");
        faulty(10, "sells 1 if");
        faulty(12, "sells 1 if 1");
        faulty(13, "sells 1 if 1=");
        faulty(14, "sells 1 if 1=1=1");
        faulty(15, "sells 1 if 1=1 1");
        faulty(17, "sells 1 if 1=1 or");
        faulty(18, "sells 1 if 1=1 or or");
        faulty(14, "takes if not 1");
        faulty(9, "takes if ]");
        faulty(11, "takes if [1=1]");
        faulty(11, "takes if (1)=1");
        faulty(13, "takes if (1=1");
        faulty(13, "takes if (1=1]");
        faulty(9, "takes if and 1=1");
        faulty(13, "takes if 1=1 if 1=1");
        faulty(11, "takes if 1==1");
        faulty(8, "takes if");
        faulty(6, "sells \u00ff");
        faulty(6, "sells \t1");
        faulty(6, "sells prices");
        faulty(6, "sells sells");
        faulty(7, "sells 1\u0000");
    }

    private static void limitsOfLaws() {
        // LAWS 6 at most
        x = new PencilPrice();
        for (int law = 0; law < 6; law++) {
            due("law", law, law("takes"));
        }
        due("7th law", -5, law("takes 1"));
        due("fault as before", NONE, x.fault());
        due("TAPE", 0, x.count(6));
        due("7th empty law", -5, x.law());
        // CLAUSES 12 at most
        String twelve = "takes" + ";takes".repeat(11);
        sound(twelve);
        faulty(twelve.length() + 2, twelve + "; takes");
        faulty(twelve.length() + 2, twelve + "; ");
        faulty(twelve.length() + 1, twelve + " takes");
        // PARTS 50 at most, all CLAUSES together
        String fifty = "sells 1" + "+age".repeat(24) + ";draws 1" + "*2".repeat(23) + " if book";
        faulty(fifty.length(), fifty);
        faulty(fifty.length() + 1, fifty + "=1");
        sound(fifty.replace("*2 if book", " if book=1"));
        faulty(fifty.length() + 1, fifty + "=foo");
        faulty(fifty.length() + 2, fifty + "=[1]");
        // brackets 8 within one another at most, of both kinds
        sound("sells " + "[".repeat(8) + "1" + "]".repeat(8) + "+" + "[".repeat(8) + "1" + "]".repeat(8));
        faulty(14, "sells " + "[".repeat(9) + "1" + "]".repeat(9));
        sound("takes if " + "(".repeat(8) + "1=1" + ")".repeat(8));
        faulty(17, "takes if " + "(".repeat(9) + "1=1" + ")".repeat(9));
        sound("takes if " + "(".repeat(5) + "1=[[[1]]]" + ")".repeat(5));
        faulty(19, "takes if " + "(".repeat(5) + "1=[[[[1]]]]" + ")".repeat(5));
        // the longest TEXTS
        sound("takes if " + "not ".repeat(96) + "1=1    ");
        faulty(400, "takes if" + " not".repeat(98));
        sound("takes if 1=" + "0".repeat(388) + "1");
        // Promise 13: force
        x = new PencilPrice();
        due("force", -2, x.force(0));
        due("force NONE", NONE, x.force(-1));
        due("its status", 0, x.status());
        law("sells 1");
        law("sells 2");
        x.book(0, 0, 0, 0, 0);
        due("force", NONE, x.force(1));
        due("its status", 0, x.status());
        due("chance", 2, x.chance(0, 0, 0, 0));
        due("force", 1, x.force(0));
        due("chance", 1, x.chance(0, 0, 0, 0));
        due("force", -2, x.force(2));
        due("force", -2, x.force(-2));
        due("LAW in FORCE", 0, x.count(11));
        due("force", 0, x.force(NONE));
        due("chance", 10, x.chance(0, 0, 0, 0));
    }

    private static void answersOfLaws() {
        // Promise 14: chance
        String[] words = {"book", "kind", "worth", "age", "price", "place", "week", "rain", "crowd", "since"};
        int[] told = {1, 3, 44, 55 + 4, 77, 2, 2, 1, 88, 0};
        for (int word = 0; word < words.length; word++) {
            shop("sells " + words[word]);
            x.book(0, 0, 0, 0, 0);
            x.book(3, 44, 55, 66, 2);
            x.terms(0, 50);
            x.terms(1, 1);
            due("chance by " + words[word], told[word], x.chance(1, 77, 4, 88));
        }
        shop("sells age + week*0");
        x.book(0, 0, 99, 0, 0);
        x.terms(0, 51);
        due("age beyond 99", 100, x.chance(0, 0, 1, 0));
        x.put(0, 2, 40);
        due("age by 51 weeks", 91, x.chance(0, 0, 51, 0));
        shop("sells week");
        x.book(0, 0, 0, 0, 0);
        x.terms(0, 51);
        due("behind week 51", 0, x.chance(0, 0, 1, 0));
        due("week 51", 51, x.chance(0, 0, 0, 0));
        due("51 weeks on", 50, x.chance(0, 0, 51, 0));
        due("no book", NONE, x.chance(1, 0, 0, 0));
        due("no book", NONE, x.chance(-1, 0, 0, 0));
        due("price", NONE, x.chance(0, 2001, 0, 0));
        due("price", NONE, x.chance(0, -1, 0, 0));
        due("weeks", NONE, x.chance(0, 0, 52, 0));
        due("weeks", NONE, x.chance(0, 0, -1, 0));
        due("crowd", NONE, x.chance(0, 0, 0, 1000));
        due("crowd", NONE, x.chance(0, 0, 0, -1));
        due("edges", 0, x.chance(0, 2000, 1, 999));
        shop("sells 1000");
        x.book(0, 0, 0, 0, 0);
        due("nearest above", 100, x.chance(0, 0, 0, 0));
        shop("sells 0-5");
        x.book(0, 0, 0, 0, 0);
        due("nearest below", 0, x.chance(0, 0, 0, 0));
        shop("sells 1; sells 2 if price > 5; sells 3 if price > 7; draws 60");
        x.book(0, 0, 0, 0, 0);
        due("first", 1, x.chance(0, 5, 0, 0));
        due("last that holds", 2, x.chance(0, 7, 0, 0));
        due("last", 3, x.chance(0, 8, 0, 0));
        shop("sells 2+3*4-20/6/2*1");
        x.book(0, 0, 0, 0, 0);
        due("by turns", 13, x.chance(0, 0, 0, 0));
        shop("sells 50+[0-7]/2");
        x.book(0, 0, 0, 0, 0);
        due("cut towards 0", 47, x.chance(0, 0, 0, 0));
        shop("sells 100-10-5");
        x.book(0, 0, 0, 0, 0);
        due("from the left", 85, x.chance(0, 0, 0, 0));
        shop("sells 1; sells 2 if price=1 or price=2 and age=1; sells 3 if not price=1 and age=1");
        x.book(0, 0, 0, 0, 0);
        due("and binds", 2, x.chance(0, 1, 0, 0));
        due("and binds", 1, x.chance(0, 2, 0, 0));
        due("not binds", 3, x.chance(0, 2, 1, 0));
        due("not binds", 2, x.chance(0, 1, 1, 0));
        // Promise 15: asks
        shop("draws place*10+crowd+age+week; takes if price=5 and place=2 and crowd=0; sells 1");
        x.book(0, 0, 1, 5, 2);
        due("draws as on the table", 11, x.asks(0, 0));
        due("takes", 1, x.asks(0, 1));
        x.put(0, 3, 6);
        due("takes not", 0, x.asks(0, 1));
        x.put(0, 3, 5);
        x.put(0, 4, 1);
        due("takes not", 0, x.asks(0, 1));
        due("what", NONE, x.asks(0, 2));
        due("what", NONE, x.asks(0, -1));
        due("no book", NONE, x.asks(1, 0));
        due("no book", NONE, x.asks(-1, 1));
        shop("draws age+week; takes if age=5 and week=51");
        x.book(0, 0, 5, 0, 0);
        x.terms(0, 51);
        due("draws this week", 56, x.asks(0, 0));
        due("takes this week", 1, x.asks(0, 1));
        shop("draws 100");
        x.book(0, 0, 0, 0, 0);
        due("at most", 99, x.asks(0, 0));
        due("without takes", 0, x.asks(0, 1));
        shop("draws 0-1;takes");
        x.book(0, 0, 0, 0, 0);
        due("at least", 0, x.asks(0, 0));
        due("takes always", 1, x.asks(0, 1));
    }

    private static void brokenLaws() {
        broken(false, "sells 1000*1000*1000");
        broken(true, "sells 1000*1000*1000+1");
        broken(true, "sells 1000*1000*1000+1-1");
        broken(false, "sells 0-1000*1000*1000");
        broken(true, "sells 0-1000*1000*1000-1");
        broken(true, "sells 1000*1000*[1000+1]*0");
        broken(true, "sells 1/0");
        broken(true, "sells 1/[price-price]");
        broken(true, "sells 0*[1/0]");
        broken(true, "sells 5 if 1/0=1");
        broken(true, "sells 5 if not 1/0=1");
        broken(true, "sells 5 if 1=1/0 or 1=1");
        broken(true, "sells 5 if 1=1 and 1/0=0");
        broken(false, "sells 5 if 1=1 or 1/0=0");
        broken(true, "sells 5 if 1=2 and 1/0=0");
        broken(false, "sells 5 if 1=2 and 1/0=0 or 1=1");
        broken(false, "sells 5 if 1=1 or 1=1 and 1/0=0");
        broken(false, "sells 5 if not (1=2 and 1/0=0)");
        broken(false, "sells 5 if (1=1 or 1/0=0) and not not (1=1 or 1/0=1 and 2/0=1)");
        broken(true, "sells 5 if (1=2 or 1/0=0) or 1=1");
        broken(true, "sells 5 if 1=2");
        broken(true, "sells 1/0 if 1=1");
        shop("sells 7; sells 1/0; sells 8 if 1/0=1");
        x.book(0, 0, 0, 0, 0);
        due("the last that HOLDS", 7, x.chance(0, 0, 0, 0));
        shop("takes if 1/0=0; draws 1/0; wants 1/0");
        x.book(0, 0, 0, 0, 0);
        x.card(0, 0, 0);
        due("takes not", 0, x.asks(0, 1));
        due("draws none", 0, x.asks(0, 0));
        due("wants as without", 50, x.wants(0, 0));
    }

    private static void broken(boolean so, String text) {
        shop(text);
        x.book(0, 0, 0, 0, 0);
        int chance = x.chance(0, 0, 0, 0);
        checks.due((so ? "does not hold: " : "holds: ") + text, so == (chance == 10));
    }

    private static void writing() {
        // Promise 16: write, 17: pencil
        shop("sells 100-price");
        x.book(0, 0, 0, 40, 0);
        x.terms(2, 0);
        // at 50: 50 * 50; at 40 2400
        due("write", 2500, x.write(0, 1));
        due("pencil", 50, x.pencil(0, 1, 0));
        x.terms(2, 1);
        // 2500 less 100 is no better than 2400
        due("write", 2400, x.write(0, 1));
        due("pencil", 40, x.pencil(0, 1, 0));
        x.terms(2, 0);
        x.terms(3, 30);
        // p (100 - p) + p 30 is 4200 at 60 and at 70
        due("write", 4200, x.write(0, 1));
        due("pencil the lowest", 60, x.pencil(0, 1, 0));
        x.put(0, 3, 70);
        due("pencil as it is", 70, x.pencil(0, 1, 0));
        // two weeks: 42 behind; p (100 - p) 100 + p 4200: at 70 210000 + 294000
        due("write", 504000, x.write(0, 2));
        due("pencil", 70, x.pencil(0, 2, 0));
        due("pencil", 70, x.pencil(0, 2, 1));
        x.terms(2, 99);
        x.put(0, 3, 0);
        // 4200 less 9900 is worse than the 0 that it sells for
        due("not worth the RUB", 0, x.write(0, 1));
        due("pencil", 0, x.pencil(0, 1, 0));
        shop("sells 100 if week=51; sells 0 if week=0 or price/99>19");
        x.book(0, 0, 0, 7, 0);
        x.terms(0, 51);
        x.terms(5, 99);
        // this week all sells at any price but the highest
        due("write", 1881 * 100 - 100, x.write(0, 1));
        due("pencil", 1881, x.pencil(0, 1, 0));
        x.terms(0, 0);
        x.terms(3, 5);
        due("none sells", 500, x.write(0, 1));
        due("its own price", 7, x.pencil(0, 1, 0));
        shop("sells 100 if price<11; sells 0 if price>10 and not price=15");
        x.book(0, 0, 0, 15, 0);
        x.terms(2, 0);
        due("the least of the GRID", 1000, x.write(0, 1));
        due("the least of the GRID", 10, x.pencil(0, 1, 0));
        // its own PRICE is not written again: 15 for all now, not 20 for half and 15 behind that
        shop("sells 0; sells 50 if price=20 and age=0; sells 100 if price=15 and age=1");
        x.book(0, 0, 0, 15, 0);
        x.terms(2, 0);
        due("not its own again", 150000, x.write(0, 2));
        due("not its own again", 15, x.pencil(0, 2, 0));
        due("not its own again", 15, x.pencil(0, 2, 1));
        x.put(0, 3, 13);
        due("else the one for half", 100000, x.write(0, 2));
        due("else the one for half", 20, x.pencil(0, 2, 0));
        due("no weeks", NOTHING, x.write(0, 0));
        due("too many weeks", NOTHING, x.write(0, 7));
        due("no book", NOTHING, x.write(1, 1));
        due("no book", NOTHING, x.write(-1, 1));
        due("no weeks", NONE, x.pencil(0, 0, 0));
        due("too many weeks", NONE, x.pencil(0, 7, 0));
        due("no such week", NONE, x.pencil(0, 2, 2));
        due("no such week", NONE, x.pencil(0, 2, -1));
        due("no book", NONE, x.pencil(1, 1, 0));
        due("no book", NONE, x.pencil(-1, 1, 0));
        shop("sells 50 if place=2 and crowd=0 and age=1");
        x.book(0, 0, 0, 8, 2);
        x.terms(2, 99);
        x.terms(5, 1);
        // in the second week 50, in the first 10 of a hundred
        due("where it stands", 8 * 10 * 100 + 90 * 400, x.write(0, 2));
        // Promise 18: stands
        due("stands", 1, x.stands(0, 0));
        due("stands", 90, x.stands(0, 1));
        due("stands", 90 * 50, x.stands(0, 2));
        due("stands", 90 * 50 * 90, x.stands(0, 3));
        due("stands", 90L * 50 * 90 * 90 * 90 * 90, x.stands(0, 6));
        due("stands", NOTHING, x.stands(0, 7));
        due("stands", NOTHING, x.stands(0, -1));
        due("stands", NOTHING, x.stands(1, 1));
        due("stands", NOTHING, x.stands(-1, 1));
        x.put(0, 4, 0);
        due("stands elsewhere", 90 * 90, x.stands(0, 2));
    }

    private static void boxes() {
        // Promise 19: box, 20: unbox
        x = new PencilPrice();
        due("no box", NOTHING, x.worth(3, 0, 0, 0));
        int[][] wrong = {{0, 0, 0}, {21, 0, 0}, {3, 4, 0}, {3, -1, 0}, {3, 3, 10000}, {3, 3, -1}};
        for (int[] w : wrong) {
            due("wrong box", -1, x.box(w[0], w[1], w[2]));
        }
        due("box", 1, x.box(3, 0, 0));
        due("box", 2, x.box(3, 1, 10));
        due("box", 3, x.box(3, 3, 100));
        due("box", 4, x.box(20, 20, 9999));
        // Promise 21: worth
        due("unseen", 110, x.worth(3, 0, 0, 0));
        due("unseen", 3, x.worth(3, 0, 0, 1));
        // one of one GOOD: likely 0, 1/3, 1: (10/3 + 100) / (4/3)
        due("one good", 155, x.worth(3, 1, 1, 0));
        due("one good", 2, x.worth(3, 1, 1, 1));
        // none of one: 1, 2/3, 0: (20/3) / (5/3)
        due("one not", 4, x.worth(3, 1, 0, 0));
        due("one not", 1, x.worth(3, 1, 0, 1));
        due("none of three", 0, x.worth(3, 3, 0, 0));
        due("none of three", 1, x.worth(3, 3, 0, 1));
        due("two of three", NOTHING, x.worth(3, 3, 2, 0));
        due("two of two", 100, x.worth(3, 2, 2, 0));
        due("all of twenty", 9999, x.worth(20, 20, 20, 0));
        due("no such size", NOTHING, x.worth(4, 0, 0, 0));
        due("wrong size", NOTHING, x.worth(0, 0, 0, 0));
        due("wrong k", NOTHING, x.worth(3, 4, 0, 0));
        due("wrong k", NOTHING, x.worth(3, -1, 0, 0));
        due("wrong g", NOTHING, x.worth(3, 1, 2, 0));
        due("wrong g", NOTHING, x.worth(3, 1, -1, 0));
        due("wrong what", NOTHING, x.worth(3, 1, 1, 2));
        due("wrong what", NOTHING, x.worth(3, 1, 1, -1));
        // Promise 22: glance
        // for 50: without it none is bought; a good one (4/9) brings 77.5 - 50; none 0 of the others
        due("glance", 110, x.glance(3, 0, 0, 50, 0));
        due("glance", 9, x.glance(3, 0, 0, 50, 1));
        // for 30: without 20/3; with 4/9 of 47.5
        due("glance", 130, x.glance(3, 0, 0, 30, 0));
        due("glance", 9, x.glance(3, 0, 0, 30, 1));
        due("bought in any case", 0, x.glance(3, 0, 0, 4, 0));
        due("bought in any case", 1, x.glance(3, 0, 0, 4, 1));
        due("never bought", 0, x.glance(3, 0, 0, 9999, 0));
        due("all seen", NOTHING, x.glance(3, 3, 0, 5, 0));
        due("no box is so", NOTHING, x.glance(4, 0, 0, 5, 0));
        due("wrong g", NOTHING, x.glance(3, 1, 2, 5, 0));
        due("wrong g", NOTHING, x.glance(3, 1, -1, 5, 0));
        due("wrong k", NOTHING, x.glance(3, -1, 0, 5, 0));
        due("wrong k", NOTHING, x.glance(3, 4, 0, 5, 0));
        due("wrong sum", NOTHING, x.glance(3, 0, 0, 10000, 0));
        due("wrong sum", NOTHING, x.glance(3, 0, 0, -1, 0));
        due("wrong what", NOTHING, x.glance(3, 0, 0, 5, 2));
        due("wrong what", NOTHING, x.glance(3, 0, 0, 5, -1));
        due("least ints", NOTHING, x.glance(3, Integer.MIN_VALUE, Integer.MIN_VALUE, 5, 0));
        due("unbox", 3, x.unbox(1));
        due("moved up", 50, x.worth(3, 0, 0, 0));
        due("unbox none", -2, x.unbox(3));
        due("unbox none", -2, x.unbox(-1));
        for (int i = 4; i <= 12; i++) {
            due("box", i, x.box(1, 1, 1));
        }
        due("13th box", -5, x.box(1, 1, 1));
        due("wrong 13th box", -1, x.box(1, 2, 1));
    }

    private static void tables() {
        // Promise 23: income, 24: best
        x = new PencilPrice();
        due("empty shop", 0, x.income(0));
        due("empty shop", NOTHING, x.income(1));
        due("empty shop", 0, x.best(3, 0));
        due("empty shop", 0, x.best(3, 1));
        due("empty shop", 1, x.best(0, 2));
        shop("draws 1+book if place=1; sells 10*place+crowd");
        x.book(0, 0, 0, 100, 1);
        x.book(0, 0, 0, 200, 0);
        x.book(0, 0, 0, 300, 2);
        // none on the table: the window's 20 of a hundred alone
        due("none", 6000, x.income(0));
        // crowd 1: 100 * 11 + 200 * 1 + 300 * 21
        due("the first", 7600, x.income(1));
        // crowd 2: 100 * 2 + 200 * 12 + 300 * 22
        due("the second", 9200, x.income(2));
        // crowd 3: 100 * 13 + 200 * 13 + 300 * 23
        due("both", 10800, x.income(3));
        due("in the window", NOTHING, x.income(4));
        due("not there", NOTHING, x.income(8));
        due("not there", NOTHING, x.income(-1));
        due("not there", NOTHING, x.income(Integer.MIN_VALUE));
        due("places stay", 1, x.of(0, 4));
        due("best", 3, x.best(10, 0));
        due("best", 3, x.best(10, 1));
        due("best", 1, x.best(10, 2));
        due("best of one", 2, x.best(1, 0));
        due("best of one", 2, x.best(1, 1));
        due("best of none", 0, x.best(0, 0));
        due("best of none", 0, x.best(0, 1));
        due("best", NONE, x.best(11, 0));
        due("best", NONE, x.best(-1, 0));
        due("best", NONE, x.best(1, 3));
        due("best", NONE, x.best(1, -1));
        x.force(NONE);
        due("all alike", 0, x.best(10, 0));
        due("all alike", 4, x.best(10, 2));
        due("all alike", 3, x.best(1, 2));
        shop("draws age; sells crowd");
        x.book(0, 0, 3, 10, 0);
        x.book(0, 0, 4, 10, 0);
        due("draw as they are this week", 140, x.income(3));
        due("draw as they are this week", 7, x.best(2, 1));
        shop("sells 50-crowd; draws 9");
        x.book(0, 0, 0, 10, 1);
        due("without a table it is more", 0, x.best(1, 0));
        due("income", 500, x.income(0));
        due("income", 410, x.income(1));
        shop("sells crowd/9; draws 99");
        for (int i = 0; i < 10; i++) {
            x.book(0, 0, 0, 999, 0);
        }
        // 891 / 9 is 99 of a hundred, one more is 110
        due("all ten", 10 * 999 * 100, x.income(1023));
        due("nine", 10 * 999 * 99, x.income(511));
        due("best", 1023, x.best(10, 0));
        due("its crowd", 990, x.best(10, 1));
        due("best of nine", 511, x.best(9, 0));
        due("best of nine", 10, x.best(9, 2));
    }

    private static void cards() {
        // Promise 25: card, 26: uncard
        x = new PencilPrice();
        int[][] wrong = {{10, 0, 0}, {-1, 0, 0}, {0, 100, 0}, {0, -1, 0}, {0, 0, 1000}, {0, 0, -1}};
        for (int[] w : wrong) {
            due("wrong card", -1, x.card(w[0], w[1], w[2]));
        }
        for (int i = 0; i < 8; i++) {
            due("card", i, x.card(9, 99, 999));
        }
        due("9th card", -5, x.card(0, 0, 0));
        due("wrong 9th card", -1, x.card(0, 0, 1000));
        due("uncard", 7, x.uncard(0));
        due("uncard", -2, x.uncard(7));
        due("uncard", -2, x.uncard(-1));
        // Promise 27: wants, 28: keep
        shop("wants 100-since-place-week*crowd if rain=0; wants 300 if age=9; wants 0-1 if age=8");
        x.book(1, 0, 0, 0, 2);
        x.card(2, 30, 10);
        due("wants, whatever its KIND", 68, x.wants(0, 0));
        x.terms(1, 1);
        due("wants without", 50, x.wants(0, 0));
        x.put(0, 2, 9);
        due("at most", 100, x.wants(0, 0));
        x.put(0, 2, 8);
        due("at least", 0, x.wants(0, 0));
        due("no card", NONE, x.wants(1, 0));
        due("no card", NONE, x.wants(-1, 0));
        due("no book", NONE, x.wants(0, 1));
        due("no book", NONE, x.wants(0, -1));
        due("not of his KIND", 0, x.keep(NONE));
        due("not of his KIND", NONE, x.keep(0));
        x = new PencilPrice();
        due("no cards", 0, x.keep(NONE));
        due("no cards", NONE, x.keep(0));
        due("no cards", NONE, x.keep(-2));
        x.card(1, 0, 10);
        x.card(1, 0, 20);
        x.card(2, 0, 5);
        due("no books", 0, x.keep(NONE));
        due("no books", NONE, x.keep(0));
        x.book(1, 0, 0, 0, 0);
        due("the better one", 1000, x.keep(NONE));
        due("keep", NONE, x.keep(0));
        due("keep", 0, x.keep(1));
        due("keep", NONE, x.keep(2));
        x.book(2, 0, 0, 0, 0);
        x.book(1, 0, 0, 0, 0);
        due("all", 1750, x.keep(NONE));
        due("the first row", 0, x.keep(0));
        due("the first row", 2, x.keep(1));
        due("the first row", 1, x.keep(2));
        x.uncard(1);
        due("moved up", 750, x.keep(NONE));
        due("moved up", 1, x.keep(1));
        x.card(1, 0, 0);
        due("a sum of 0: NONE ahead of all", NONE, x.keep(2));
        due("no card", NONE, x.keep(3));
        // one book each though one alone would take the other's
        shop("wants 100 if book=0; wants 90 if book=0 and since=1; wants 80 if book=1 and since=0; wants 10 if book=1 and since=1");
        x.book(0, 0, 0, 0, 0);
        x.book(0, 0, 0, 0, 0);
        x.card(0, 0, 1);
        x.card(0, 1, 1);
        due("together", 170, x.keep(NONE));
        due("together", 1, x.keep(0));
        due("together", 0, x.keep(1));
    }

    private static void dealer() {
        // Promise 29: dealer, 30: brings
        x = new PencilPrice();
        x.book(0, 100, 0, 50, 0);
        due("takes none without a law", 0, x.dealer(0));
        due("pays none", 0, x.dealer(1));
        due("sells by 10", 500, x.brings());
        shop("takes if kind<2; sells place*20+crowd");
        due("no books", 0, x.dealer(0));
        due("no books", 0, x.brings());
        x.book(0, 100, 0, 90, 1);
        x.book(1, 100, 0, 80, 1);
        x.book(2, 100, 0, 10, 1);
        x.book(0, 50, 0, 40, 1);
        x.book(0, 50, 0, 50, 1);
        due("two hands", 3, x.dealer(0));
        due("pays", 170, x.dealer(1));
        // 17000, 10 * 20, 40 * 20, 50 * 20
        due("brings", 19000, x.brings());
        x.terms(4, 9);
        due("not for what it is worth", 11, x.dealer(0));
        due("pays", 210, x.dealer(1));
        x.terms(4, 1);
        due("the greatest gain", 2, x.dealer(0));
        x.terms(4, 0);
        due("no hands", 0, x.dealer(0));
        due("no hands", 270 * 20, x.brings());
        x.terms(4, 1);
        x.put(1, 3, 90);
        due("lower ones first", 1, x.dealer(0));
        due("what", NONE, x.dealer(2));
        due("what", NONE, x.dealer(-1));
        x.put(0, 3, 200);
        due("dearer than worth", 2, x.dealer(0));
        // Promise 31: bait
        shop("takes if price<worth; sells 0");
        x.book(0, 45, 0, 1, 0);
        x.book(0, 35, 0, 1, 0);
        x.book(0, 500, 0, 499, 0);
        x.terms(4, 1);
        // with one hand he takes the third one only if the two give him nothing
        due("bait", 50, x.bait(0, 1, 0));
        due("bait", 40, x.bait(0, 1, 1));
        due("bait", 49900, x.bait(0, 1, 2));
        // with two he takes the first one, too, if the other one gives him nothing
        x.terms(4, 2);
        due("bait", 40, x.bait(0, 1, 0));
        due("bait", 40, x.bait(0, 1, 1));
        due("bait", 53900, x.bait(0, 1, 2));
        x = new PencilPrice();
        x.book(0, 0, 0, 5, 0);
        x.book(0, 0, 0, 5, 0);
        x.book(0, 0, 0, 5, 0);
        // by 10 of a hundred each the dearest
        due("bait", 200, x.bait(0, 2, 0));
        due("bait", 200, x.bait(0, 2, 1));
        due("bait", 4050, x.bait(0, 2, 2));
        due("prices stay", 5, x.of(0, 3));
        due("the same one", NONE, x.bait(1, 1, 0));
        due("no book", NONE, x.bait(3, 1, 0));
        due("no book", NONE, x.bait(1, 3, 0));
        due("no book", NONE, x.bait(-1, 1, 0));
        due("no book", NONE, x.bait(1, -1, 0));
        due("what", NONE, x.bait(0, 1, 3));
        due("what", NONE, x.bait(0, 1, -1));
        shop("sells 0");
        x.book(0, 0, 0, 5, 0);
        x.book(0, 0, 0, 5, 0);
        due("the lowest prices", 0, x.bait(1, 0, 0));
        due("the lowest prices", 0, x.bait(1, 0, 1));
        due("nothing", 0, x.bait(1, 0, 2));
        shop("takes; sells 0");
        x.book(0, 25, 0, 5, 0);
        x.book(0, 25, 0, 5, 0);
        x.terms(4, 1);
        // both at 20: he takes the lower number; with the other one dearer he takes the first
        due("the best", 2000, x.bait(0, 1, 2));
        due("the first ahead", 20, x.bait(0, 1, 0));
        due("and the other lowest", 20, x.bait(0, 1, 1));
        due("the first ahead", 20, x.bait(1, 0, 0));
        due("he takes the other one", 20, x.bait(1, 0, 1));
    }

    private static void octobers() {
        // Promise 32: october, 33: forget
        x = new PencilPrice();
        due("forget", 0, x.forget());
        due("october", -1, x.october(-1));
        due("october", -1, x.october(1000));
        for (int i = 1; i <= 10; i++) {
            due("october", i, x.october(i * 10));
        }
        due("11th october", -5, x.october(0));
        due("wrong 11th october", -1, x.october(1000));
        due("forget", 10, x.forget());
        due("forget", 0, x.forget());
        // Promise 34: june
        due("no october", NOTHING, x.june(0, 0, 0, 0));
        x.october(0);
        x.october(999);
        // 5 copies: none sold: 5 * (1 - 3); all sold: 5 * (4 - 3)
        due("june", -5, x.june(5, 3, 4, 1));
        due("june", 0, x.june(0, 3, 4, 1));
        due("june", 999L * (4 - 3) + 999L * (1 - 3), x.june(999, 3, 4, 1));
        due("june", -2 * 999L * 999, x.june(999, 999, 0, 0));
        due("june", NOTHING, x.june(1000, 3, 4, 1));
        due("june", NOTHING, x.june(-1, 3, 4, 1));
        due("june", NOTHING, x.june(1, 1000, 4, 1));
        due("june", NOTHING, x.june(1, -1, 4, 1));
        due("june", NOTHING, x.june(1, 3, 1000, 1));
        due("june", NOTHING, x.june(1, 3, -1, 1));
        due("june", NOTHING, x.june(1, 3, 4, 1000));
        due("june", NOTHING, x.june(1, 3, 4, -1));
        // Promise 35: copies
        due("copies", 0, x.copies(3, 4, 1));
        due("copies", 999, x.copies(2, 4, 1));
        due("all alike", 0, x.copies(2, 4, 0));
        due("what is left goes for more", 999, x.copies(3, 2, 9));
        due("copies", NONE, x.copies(1000, 4, 1));
        due("copies", NONE, x.copies(3, -1, 1));
        due("copies", NONE, x.copies(3, 4, 1000));
        x.forget();
        due("copies", NONE, x.copies(3, 4, 1));
        x.october(7);
        x.october(30);
        x.october(50);
        // up to 7 each brings 3 * 2, up to 30 2 * 2 - 1, up to 50 2 - 2 * 1 = 0, then -3
        due("lowest of the best", 30, x.copies(1, 3, 0));
        due("nothing lost by more", 30, x.copies(2, 4, 1));
    }

    private static void marks() {
        // Promise 36: mark, 37: clear
        x = new PencilPrice();
        due("clear", 0, x.clear());
        due("mark", -1, x.mark(101, 0));
        due("mark", -1, x.mark(-1, 0));
        due("mark", -1, x.mark(0, 101));
        due("mark", -1, x.mark(0, -1));
        for (int i = 0; i < 6; i++) {
            due("mark", i, x.mark(100, 0));
        }
        due("7th mark", -5, x.mark(0, 0));
        due("wrong 7th mark", -1, x.mark(0, 101));
        due("all six", 1, x.likely(63, 1, 0));
        due("all six", 1, x.likely(63, 1, 1));
        due("none of six", 0, x.likely(0, 99, 0));
        due("none of six", 1, x.likely(0, 99, 1));
        due("neither", NOTHING, x.likely(1, 50, 0));
        due("clear", 6, x.clear());
        due("clear", 0, x.clear());
        // Promise 38: likely
        due("the prior alone", 1, x.likely(0, 20, 0));
        due("the prior alone", 5, x.likely(0, 20, 1));
        x.mark(80, 10);
        x.mark(30, 60);
        // both: 25 * 80 * 30 = 60000 against 75 * 10 * 60 = 45000
        due("both", 4, x.likely(3, 25, 0));
        due("both", 7, x.likely(3, 25, 1));
        // the first alone: 25 * 80 * 70 = 140000 against 75 * 10 * 40 = 30000
        due("the first", 14, x.likely(1, 25, 0));
        due("the first", 17, x.likely(1, 25, 1));
        // the second alone: 25 * 20 * 30 = 15000 against 75 * 90 * 60 = 405000
        due("the second", 1, x.likely(2, 25, 0));
        due("the second", 28, x.likely(2, 25, 1));
        due("marks", NOTHING, x.likely(4, 25, 0));
        due("marks", NOTHING, x.likely(-1, 25, 0));
        due("prior", NOTHING, x.likely(0, 101, 0));
        due("prior", NOTHING, x.likely(0, -1, 0));
        due("what", NOTHING, x.likely(0, 50, 2));
        due("what", NOTHING, x.likely(0, 50, -1));
        due("prior of 0", 0, x.likely(3, 0, 0));
        due("prior of 100", 1, x.likely(3, 100, 0));
        // Promise 39: errors; none of both: 25 * 20 * 70 = 35000 against 75 * 90 * 40 = 270000
        // by 50: called with the first, alone or with both
        due("missed", 20 * 30 + 20 * 70, x.errors(25, 50, 0));
        due("miscalled", 10 * 60 + 10 * 40, x.errors(25, 50, 1));
        due("all called", 0, x.errors(25, 0, 0));
        due("all called", 10000, x.errors(25, 0, 1));
        due("none called", 10000, x.errors(25, 100, 0));
        due("none called", 0, x.errors(25, 100, 1));
        due("prior", NOTHING, x.errors(101, 50, 0));
        due("prior", NOTHING, x.errors(-1, 50, 0));
        due("line", NOTHING, x.errors(25, 101, 0));
        due("line", NOTHING, x.errors(25, -1, 0));
        due("what", NOTHING, x.errors(25, 50, 2));
        due("what", NOTHING, x.errors(25, 50, -1));
        x.clear();
        due("without marks, just LINE", 0, x.errors(30, 30, 0));
        due("without marks, just LINE", 1, x.errors(30, 30, 1));
        due("without marks, below LINE", 1, x.errors(30, 31, 0));
        due("without marks, below LINE", 0, x.errors(30, 31, 1));
        x.mark(50, 0);
        // by a prior of 0 nothing tells how likely one that shows it is: it is not called
        due("neither could show it", 50, x.errors(0, 0, 0));
        due("the others are called", 100, x.errors(0, 0, 1));
    }

    private static void weeks() {
        // Promise 40: weeks, 41: gone
        x = new PencilPrice();
        due("no books", 0, x.weeks(0, 1));
        due("weeks", -1, x.weeks(-1, 1));
        due("weeks", -1, x.weeks(1000001, 1));
        due("weeks", -1, x.weeks(0, 0));
        due("weeks", -1, x.weeks(0, 41));
        // from 0: 12345 (45), 12345 * 1103 + 12345 = 13628880, modulo 1000003 628841 (41)
        shop("sells 45; sells 46 if book=2; takes if book=3 and week=1; draws 7");
        x.book(0, 0, 0, 100, 0);
        x.book(0, 0, 0, 200, 0);
        due("41 is below 45, 45 is not", 200, x.weeks(0, 1));
        due("stays", NONE, x.gone(0, 0));
        due("stays", NONE, x.gone(0, 1));
        due("gone", 0, x.gone(1, 0));
        due("to another one", 1, x.gone(1, 1));
        due("no book", NONE, x.gone(2, 0));
        due("no book", NONE, x.gone(-1, 0));
        due("no book", NONE, x.gone(10, 0));
        due("what", NONE, x.gone(1, 2));
        due("what", NONE, x.gone(1, -1));
        due("refused", -1, x.weeks(0, 41));
        due("the latest stay", 0, x.gone(1, 0));
        due("on paper", 0, x.of(1, 4));
        due("on paper", 2, x.count(0));
        due("on paper", 0, x.count(12));
        // the dealer comes first, from the second week on
        shop("sells 0; takes if week=1; takes if week=3");
        x.book(0, 10, 0, 9, 0);
        x.book(0, 10, 0, 8, 0);
        x.book(0, 10, 0, 7, 0);
        x.book(0, 10, 0, 10, 0);
        x.terms(0, 51);
        due("by two hands a time", 15, x.weeks(77, 4));
        due("and the rest", 24, x.weeks(77, 40));
        due("gone", 4, x.gone(0, 0));
        due("gone", 2, x.gone(1, 0));
        due("gone", 2, x.gone(2, 0));
        due("to the dealer", 0, x.gone(0, 1));
        due("never", NONE, x.gone(3, 0));
        // crowd: what those draw in that the dealer left, though they are sold in that week
        shop("takes if book=0; draws 50 if place=1; sells crowd; sells crowd*2 if book=1");
        x.book(0, 9, 0, 1, 1);
        x.book(0, 0, 0, 10, 1);
        x.book(0, 0, 0, 100, 0);
        // draws 45 and 41: the crowd is 50 for both
        due("crowd once for all", 111, x.weeks(0, 1));
        due("gone", 0, x.gone(0, 1));
        due("gone", 1, x.gone(1, 1));
        due("gone", 1, x.gone(2, 1));
        x.put(1, 4, 0);
        due("no crowd", 1, x.weeks(0, 1));
        // three on the table draw 21 + 21: more than 41, no more than 45
        shop("takes if book=0; draws 21; sells crowd");
        x.book(0, 9, 0, 1, 1);
        x.book(0, 0, 0, 10, 1);
        x.book(0, 0, 0, 100, 1);
        x.book(0, 0, 0, 100, 0);
        due("crowd of both that are left", 101, x.weeks(0, 1));
        shop("draws 21; sells crowd");
        x.book(0, 0, 0, 10, 1);
        x.book(0, 0, 0, 100, 1);
        due("crowd of both", 100, x.weeks(0, 1));
        shop("sells age");
        x.book(0, 0, 44, 5, 0);
        due("45 is not below 44", 0, x.weeks(0, 1));
        due("41 is below 45", 5, x.weeks(0, 2));
        due("in the second week", 1, x.gone(0, 0));
    }

    private static void images() {
        // Promise 42: image, 43: back
        x = new PencilPrice();
        due("image", -1, x.image(2));
        due("image", -1, x.image(-1));
        due("back", -1, x.back(2));
        due("back", -1, x.back(-1));
        due("back", -2, x.back(0));
        due("back", -2, x.back(1));
        x.book(1, 2, 3, 4, 1);
        x.box(1, 1, 1);
        x.card(1, 2, 3);
        x.october(5);
        x.mark(1, 2);
        law("sells 33");
        x.force(0);
        x.terms(0, 7);
        x.terms(4, 3);
        due("image", 0, x.image(0));
        due("back to what it is", 0, x.back(0));
        x.put(0, 1, 500);
        x.put(0, 4, 2);
        x.book(2, 2, 2, 2, 2);
        x.unbox(0);
        x.uncard(0);
        x.forget();
        x.clear();
        x.terms(0, 9);
        law("sells 44");
        x.force(1);
        due("image", 0, x.image(1));
        x.weeks(0, 3);
        int gone = x.gone(0, 0);
        law("sells");
        x.feed(0, 0, 0, 0, 0);
        x.row();
        x.feed(0, 0, 0, 0, 0);
        due("back", 0, x.back(0));
        int[] counts = {1, 1, 1, 1, 1, 1, 20, 4, 2, 0, 1, 0, 7, 0, 1, 0, 3, 10};
        for (int what = 0; what < counts.length; what++) {
            due("count " + what + " is back", counts[what], x.count(what));
        }
        due("its worth is back", 2, x.of(0, 1));
        due("its place is back", 1, x.of(0, 4));
        due("the law is back", 33, x.chance(0, 0, 0, 0));
        due("fault stays", 5, x.fault());
        due("foxed stays", 1, x.foxed());
        due("weeks stay", gone, x.gone(0, 0));
        due("boxes are back", 1, x.worth(1, 1, 1, 0));
        due("cards are back", 150, x.keep(NONE));
        due("octobers are back", 5, x.copies(0, 1, 0));
        due("marks are back", 1, x.likely(1, 50, 0));
        x.end(0);
        due("another law as number 1", 1, law("sells 55"));
        due("the images stay", 0, x.back(1));
        due("and hold their own", 44, x.chance(0, 0, 0, 0));
        due("its worth", 500, x.of(0, 1));
        due("books", 2, x.count(0));
        x.put(0, 1, 1);
        due("the images stay", 0, x.back(1));
        due("as it was", 500, x.of(0, 1));
        PencilPrice other = x;
        x = new PencilPrice();
        x.book(0, 0, 0, 0, 0);
        x.image(0);
        law("sells 66");
        x.force(0);
        x.image(1);
        x.back(0);
        due("without a law", 10, x.chance(0, 0, 0, 0));
        due("another law as number 0", 0, law("sells 77"));
        x.force(0);
        due("the other one", 77, x.chance(0, 0, 0, 0));
        x.back(1);
        due("the one that was", 66, x.chance(0, 0, 0, 0));
        x = other;
        x.drop(0);
        x.image(1);
        x.back(0);
        x.back(1);
        due("anew", 1, x.count(0));
    }

    private static void countsAndStatus() {
        // Promise 44: count, 45: status
        x = new PencilPrice();
        due("count", NONE, x.count(18));
        due("count", NONE, x.count(-1));
        due("count", NONE, x.count(Integer.MIN_VALUE));
        x.drop(0);
        due("status", -2, x.status());
        x.end(5);
        x.of(3, 3);
        x.chance(0, 0, 0, 0);
        x.keep(5);
        x.forget();
        x.clear();
        due("status of none of these", -2, x.status());
        x.book(0, 0, 0, 0, 0);
        due("status", 0, x.status());
        int[] refused = {x.book(0, 0, 0, 0, 9), x.put(0, 0, 10), x.terms(0, 52), x.box(0, 0, 0), x.card(0, 0, -1),
            x.october(-1), x.mark(-1, 0), x.weeks(-1, 1), x.image(2), x.back(2)};
        for (int by : refused) {
            due("refused", -1, by);
        }
        due("refused by -1", 10, x.count(7));
        due("refused by -2", 1, x.count(8));
        due("status", -1, x.status());
        due("row", -6, x.row());
        due("status", -6, x.status());
        due("law", -6, x.law());
        due("put", -2, x.put(1, 0, 0));
        due("status", -2, x.status());
        x.image(0);
        due("status", 0, x.status());
        x.drop(7);
        x.unbox(0);
        x.uncard(0);
        x.force(0);
        x.back(1);
        due("status", -2, x.status());
        x.back(0);
        due("status", 0, x.status());
        due("refused by -1", 10, x.count(7));
        due("refused by -2", 7, x.count(8));
        due("refused by -5", 0, x.count(9));
        due("refused by -6", 2, x.count(10));
        for (int i = 0; i < 12; i++) {
            x.october(1);
        }
        due("status", -5, x.status());
        due("refused by -5", 2, x.count(9));
        due("octobers", 10, x.count(4));
        x.forget();
        due("octobers", 0, x.count(4));
        due("status", -5, x.status());
        x.terms(5, 99);
        due("status", 0, x.status());
        due("terms", 99, x.count(17));
        x.put(0, 0, 0);
        x.drop(3);
        x.put(0, 1, 1);
        due("status", 0, x.status());
        x.weeks(5, 0);
        x.weeks(5, 1);
        due("status", 0, x.status());
    }
}
