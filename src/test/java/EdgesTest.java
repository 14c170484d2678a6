import java.util.ArrayList;
import java.util.List;
import java.util.function.IntToLongFunction;
import java.util.function.LongSupplier;

/**
 * Promise by promise each boundary that the document names: too small, too large, empty, full,
 * behind the end, in lowest terms, as many as can be, REFUSED and left as it was.
 */
public final class EdgesTest {
    private static final int NONE = PencilPrice.NONE;
    private static final long NOTHING = PencilPrice.NOTHING;
    private static final int LEAST = Integer.MIN_VALUE;
    private static final int MOST = Integer.MAX_VALUE;
    private static final Checks checks = new Checks();
    private static PencilPrice x;

    public static void main(String[] args) {
        newObject();
        book();
        put();
        of();
        drop();
        terms();
        feed();
        end();
        row();
        foxed();
        lawsFull();
        lawTokens();
        lawClauses();
        lawParts();
        lawBrackets();
        lawFaults();
        force();
        chance();
        notTold();
        clamped();
        broken();
        lastThatHolds();
        asks();
        write();
        pencil();
        stands();
        box();
        unbox();
        worth();
        glance();
        income();
        best();
        card();
        uncard();
        wants();
        keep();
        dealer();
        brings();
        bait();
        october();
        forget();
        june();
        copies();
        mark();
        clear();
        likely();
        errors();
        weeks();
        gone();
        images();
        backToAll();
        count();
        status();
        refusedChangesNothing();
        askedChangesNothing();
        checks.end();
    }

    // ---- what the tests have in common

    private static void due(String call, long want, long got) {
        checks.due(call, want, got);
    }

    private static void fresh() {
        x = new PencilPrice();
    }

    private static void books(int n) {
        for (int i = 0; i < n; i++) {
            due("book", x.count(0), x.book(0, 0, 0, 0, 0));
        }
    }

    /** A number can be from least to most and is answered by refusal else. */
    private static void bounds(String call, long refusal, int least, int most, IntToLongFunction answer) {
        checks.due(call + " " + least + " can be", answer.applyAsLong(least) != refusal);
        checks.due(call + " " + most + " can be", answer.applyAsLong(most) != refusal);
        for (int wrong : new int[] {least - 1, most + 1, LEAST, MOST}) {
            due(call + " " + wrong, refusal, answer.applyAsLong(wrong));
        }
    }

    private static void feed(String text) {
        for (int at = 0; at < text.length(); at += 20) {
            int[] five = new int[5];
            for (int i = 0; i < 20; i++) {
                five[i / 4] = five[i / 4] << 8 | (at + i < text.length() ? text.charAt(at + i) : ' ');
            }
            x.feed(five[0], five[1], five[2], five[3], five[4]);
        }
        due("end of " + text, text.length(), x.end(text.length()));
    }

    private static int law(String text) {
        feed(text);
        return x.law();
    }

    private static void sound(String text) {
        fresh();
        due("law " + text, 0, law(text));
        due("fault of " + text, NONE, x.fault());
    }

    private static void faulty(int place, String text) {
        fresh();
        due("law " + text, -6, law(text));
        due("fault of " + text, place, x.fault());
        due("its status", -6, x.status());
        due("LAWS", 0, x.count(1));
        due("TAPE", 0, x.count(6));
    }

    /** A new shop with that LAW in FORCE. */
    private static void shop(String text) {
        sound(text);
        due("force", NONE, x.force(0));
    }

    private static void holds(boolean so, String text) {
        shop(text);
        books(1);
        due((so ? "holds: " : "does not hold: ") + text, so ? 1 : 0, x.chance(0, 0, 0, 0) == 10 ? 0 : 1);
    }

    // ---- promise 1

    private static void newObject() {
        fresh();
        for (int what = 0; what < 5; what++) {
            due("of", NONE, x.of(0, what));
        }
        due("drop", -2, x.drop(0));
        due("put", -2, x.put(0, 0, 0));
        due("unbox", -2, x.unbox(0));
        due("uncard", -2, x.uncard(0));
        due("force", -2, x.force(0));
        due("back", -2, x.back(0));
        due("back", -2, x.back(1));
        due("row", -6, x.row());
        due("law", -6, x.law());
        due("fault of an empty TAPE", 0, x.fault());
        fresh();
        due("chance", NONE, x.chance(0, 0, 0, 0));
        due("asks", NONE, x.asks(0, 0));
        due("write", NOTHING, x.write(0, 1));
        due("pencil", NONE, x.pencil(0, 1, 0));
        due("stands", NOTHING, x.stands(0, 0));
        due("worth", NOTHING, x.worth(1, 0, 0, 0));
        due("glance", NOTHING, x.glance(1, 0, 0, 0, 0));
        due("wants", NONE, x.wants(0, 0));
        due("dealer", 0, x.dealer(0));
        due("dealer", 0, x.dealer(1));
        due("brings", 0, x.brings());
        due("bait", NONE, x.bait(0, 1, 0));
        due("june", NOTHING, x.june(0, 0, 0, 0));
        due("copies", NONE, x.copies(0, 0, 0));
        due("likely, no MARK", NOTHING, x.likely(1, 50, 0));
        due("likely, by its PRIOR", 1, x.likely(0, 50, 0));
        due("forget", 0, x.forget());
        due("clear", 0, x.clear());
        due("foxed", 0, x.foxed());
        due("fault", NONE, x.fault());
        due("status", 0, x.status());
        PencilPrice other = x;
        fresh();
        books(3);
        due("one of its own", 0, other.count(0));
    }

    // ---- promises 2 to 6

    private static void book() {
        bounds("book KIND", -1, 0, 9, v -> oneBook(v, 0, 0, 0, 0));
        bounds("book WORTH", -1, 0, 999, v -> oneBook(0, v, 0, 0, 0));
        bounds("book AGE", -1, 0, 99, v -> oneBook(0, 0, v, 0, 0));
        bounds("book PRICE", -1, 0, 999, v -> oneBook(0, 0, 0, v, 0));
        bounds("book PLACE", -1, 0, 2, v -> oneBook(0, 0, 0, 0, v));
        fresh();
        x.book(10, 0, 0, 0, 0);
        due("REFUSED: none came", 0, x.count(0));
        books(10);
        due("the 11th", -5, x.book(0, 0, 0, 0, 0));
        due("-1 ahead of -5", -1, x.book(0, 1000, 0, 0, 0));
        due("10 at most", 10, x.count(0));
        x.drop(4);
        due("room again, behind all", 9, x.book(1, 2, 3, 4, 1));
        due("its own", 4, x.of(9, 3));
        due("full again", -5, x.book(0, 0, 0, 0, 0));
    }

    private static long oneBook(int kind, int worth, int age, int price, int place) {
        fresh();
        return x.book(kind, worth, age, price, place);
    }

    private static void put() {
        int[] most = {9, 999, 99, 999, 2};
        for (int what = 0; what < 5; what++) {
            int of = what;
            fresh();
            x.book(5, 5, 5, 5, 1);
            bounds("put " + what, -1, 0, most[what], v -> x.put(0, of, v));
            due("of " + what, most[what], x.of(0, what));
            due("the others stay", what == 0 ? 5 : most[0] - 4, x.of(0, what == 0 ? 1 : 0));
            due("-1 ahead of -2", -1, x.put(1, what, most[what] + 1));
        }
        fresh();
        books(2);
        bounds("put what", -1, 0, 4, v -> x.put(0, v, 0));
        bounds("put book", -2, 0, 1, v -> x.put(v, 0, 0));
        due("-1 ahead of -2", -1, x.put(2, 5, 0));
        due("-1 ahead of -2", -1, x.put(-1, -1, 0));
        due("what it was", 0, x.put(1, 4, 2));
        due("what it was", 2, x.put(1, 4, 2));
        x.put(1, 4, 3);
        due("REFUSED: as it was", 2, x.of(1, 4));
        due("the other one stays", 0, x.of(0, 4));
    }

    private static void of() {
        fresh();
        books(10);
        bounds("of book", NONE, 0, 9, v -> x.of(v, 0));
        bounds("of what", NONE, 0, 4, v -> x.of(9, v));
        x.drop(0);
        due("of what was there", NONE, x.of(9, 0));
        due("of is not REFUSED", 0, x.status());
    }

    private static void drop() {
        fresh();
        for (int i = 0; i < 10; i++) {
            x.book(i, 10 * i, i, i, i % 3);
        }
        bounds("drop", -2, 0, 8, v -> x.drop(v));
        due("left", 8, x.count(0));
        // the first and then the last of nine are gone: 1 .. 8 are left
        for (int i = 0; i < 8; i++) {
            int[] was = {i + 1, 10 * (i + 1), i + 1, i + 1, (i + 1) % 3};
            for (int what = 0; what < 5; what++) {
                due("moved up " + i, was[what], x.of(i, what));
            }
        }
        for (int left = 7; left >= 0; left--) {
            due("left", left, x.drop(left / 2));
        }
        due("none left", -2, x.drop(0));
        due("from 0 again", 0, x.book(0, 0, 0, 0, 0));
    }

    private static void terms() {
        fresh();
        bounds("WEEK", -1, 0, 51, v -> x.terms(0, v));
        bounds("RAIN", -1, 0, 1, v -> x.terms(1, v));
        bounds("RUB", -1, 0, 99, v -> x.terms(2, v));
        bounds("LEFT", -1, 0, 999, v -> x.terms(3, v));
        bounds("HANDS", -1, 0, 9, v -> x.terms(4, v));
        bounds("PRICES", -1, 1, 99, v -> x.terms(5, v));
        bounds("what", -1, 0, 5, v -> x.terms(v, 1));
        due("REFUSED: as it was", 1, x.terms(5, 7));
        due("what it was", 7, x.terms(5, 7));
        due("-1 a TERM that is none", -1, x.terms(LEAST, LEAST));
    }

    // ---- promises 7 to 10

    private static void feed() {
        fresh();
        x.feed(0x00010203, 0x0405ff07, -1, LEAST, MOST);
        due("end", 6, x.end(6));
        due("the highest byte first", 2, x.row());
        due("WORTH", 1, x.of(0, 1));
        due("PRICE", 2, x.of(0, 3));
        due("KIND", 3, x.of(1, 0));
        due("PRICE", 5, x.of(1, 3));
        fresh();
        x.feed(0x01ffffff, 0x02ff0003, -1, 0x04800000, 0x7f00ff00);
        // 01 ff ff | ff 02 ff | 00 03 ff | ff ff ff | 04 80 00 | 00 7f 00 | ff 00
        due("bytes are 0 to 255", 4, x.row());
        due("WORTH", 255, x.of(0, 1));
        due("PRICE", 255, x.of(1, 3));
        due("of the highest bit", 128, x.of(2, 1));
        due("WORTH", 127, x.of(3, 1));
        due("FOXED", 3, x.foxed());
        fresh();
        for (int fed = 20; fed <= 400; fed += 20) {
            due("it has", fed, x.feed(0, 0, 0, 0, 0));
        }
        due("more than 400", NONE, x.feed(MOST, MOST, MOST, MOST, MOST));
        due("it has 400 as before", 400, x.count(6));
        due("not REFUSED", 0, x.status());
        due("end", 399, x.end(399));
        due("419", NONE, x.feed(0, 0, 0, 0, 0));
        due("end", 381, x.end(381));
        due("401", NONE, x.feed(0, 0, 0, 0, 0));
        due("end", 380, x.end(380));
        due("400", 400, x.feed(0, 0, 0, 0, 0));
    }

    private static void end() {
        fresh();
        due("end of an empty one", 0, x.end(0));
        due("it has not so many", NONE, x.end(1));
        x.feed(0, 0, 0, 0, 0);
        for (int wrong : new int[] {21, -1, 400, LEAST, MOST}) {
            due("end " + wrong, NONE, x.end(wrong));
        }
        due("all that it has", 20, x.end(20));
        due("end", 6, x.end(6));
        due("it has not so many", NONE, x.end(7));
        due("as it was", 6, x.count(6));
        x.feed(0x05000000, 0, 0, 0, 0);
        due("end", 9, x.end(9));
        x.row();
        due("behind the first alone", 5, x.of(2, 0));
        x.feed(0, 0, 0, 0, 0);
        due("end", 0, x.end(0));
        due("empty", -6, x.row());
        due("not REFUSED", -6, x.status());
        x.end(5);
        due("one such call", 1, x.count(10));
    }

    private static void row() {
        for (int bytes = 1; bytes <= 4; bytes++) {
            fresh();
            x.feed(0, 0, 0, 0, 0);
            x.end(bytes);
            due("books of bytes", bytes / 3, x.row());
            due("FOXED of bytes", bytes == 3 ? 0 : 1, x.foxed());
            due("TAPE", 0, x.count(6));
            due("status", 0, x.status());
        }
        fresh();
        x.feed(0x09ffff0a, 0xffffff00, 0, 0, 0);
        x.end(9);
        due("KIND 10 can't be", 1, x.row());
        due("KIND", 9, x.of(0, 0));
        due("WORTH", 255, x.of(0, 1));
        due("AGE", 0, x.of(0, 2));
        due("PRICE", 255, x.of(0, 3));
        due("PLACE", 0, x.of(0, 4));
        due("FOXED", 2, x.foxed());
        fresh();
        for (int i = 0; i < 20; i++) {
            x.feed(0, 0, 0, 0, 0);
        }
        // 133 by threes, one byte is left
        due("all there is room for", 10, x.row());
        due("FOXED", 124, x.foxed());
        due("TAPE", 0, x.count(6));
        x.feed(-1, -1, -1, -1, -1);
        due("none of them", 0, x.row());
        due("status", 0, x.status());
        due("FOXED", 7, x.foxed());
        due("an empty TAPE", -6, x.row());
        due("status", -6, x.status());
        due("BOOKS", 10, x.count(0));
        fresh();
        books(9);
        x.feed(0x0b000001, 0x02030200, 0, 0, 0);
        x.end(9);
        due("one that can't be takes no room", 1, x.row());
        due("the one behind it", 2, x.of(9, 1));
        due("FOXED", 2, x.foxed());
    }

    private static void foxed() {
        fresh();
        x.row();
        due("REFUSED: none ahead of it", 0, x.foxed());
        x.feed(-1, -1, -1, -1, -1);
        x.row();
        due("foxed", 7, x.foxed());
        x.row();
        due("REFUSED: the latest that was not", 7, x.foxed());
        x.feed(0, 0, 0, 0, 0);
        x.end(3);
        x.row();
        due("none", 0, x.foxed());
    }

    // ---- promises 11 to 13 and the language

    private static void lawsFull() {
        fresh();
        for (int law = 0; law < 5; law++) {
            due("law", law, law("sells " + (20 + law)));
        }
        due("one that can't be", -6, law("sells 20 20"));
        due("fault", 9, x.fault());
        due("the sixth", 5, law("sells 25"));
        due("fault of a sound one", NONE, x.fault());
        due("one that can't be", -5, law("foo"));
        due("-5 ahead of reading it", NONE, x.fault());
        due("TAPE", 0, x.count(6));
        due("-5 ahead of -6", -5, x.law());
        due("LAWS", 6, x.count(1));
        due("-5", 2, x.count(9));
        due("-6", 1, x.count(10));
        books(1);
        for (int law = 0; law < 6; law++) {
            x.force(law);
            due("each its own", 20 + law, x.chance(0, 0, 0, 0));
        }
        fresh();
        due("law", -6, law("sells"));
        for (int law = 0; law < 6; law++) {
            law("takes");
        }
        due("law", -5, law("foo"));
        due("fault of the latest that was read", NONE, x.fault());
        fresh();
        // nothing of a TEXT that can't be is left for the next one
        due("law", -6, law("sells [1+" + "age*".repeat(48) + "2"));
        due("law", 0, law("sells 31 if [[[[[[[[1]]]]]]]]=1; sells 10" + "+0".repeat(44) + " if 1=2"));
        x.force(0);
        books(1);
        due("its own", 31, x.chance(0, 0, 0, 0));
    }

    private static void lawTokens() {
        sound("sells1");
        sound("takes if1=1or 2=2and(3=3)");
        sound("   takes   if   1   =   1   ");
        sound("takes;takes ;  takes");
        sound("sells 1000");
        sound("sells 0");
        sound("sells 00000000000000000000000000000000000000000000000000000000000000000001000");
        faulty(6, "sells 1001");
        faulty(6, "sells 00000000000000000000000000000000000000000000000000000000000000000001001");
        faulty(6, "sells 4294967297");
        faulty(6, "sells 18446744073709551617");
        faulty(8, "sells 1 0");
        faulty(0, "takesif 1=1");
        faulty(13, "takes if 1=1 orprice=1");
        faulty(9, "takes if notprice=1");
        faulty(6, "sells ageage");
        faulty(10, "sells age age");
        faulty(6, "sells ag");
        faulty(6, "sells a");
        faulty(6, "sells crowds");
        faulty(0, "sel");
        faulty(0, "taken");
        faulty(0, "SELLS 1");
        faulty(5, "sells\t1");
        faulty(5, "sells\n1");
        faulty(6, "sells A");
        for (char other = 0; other <= 255; other++) {
            boolean digit = other >= '0' && other <= '9';
            if (other == ' ' || digit || other >= 'a' && other <= 'z') {
                continue;
            }
            // what no CLAUSE can have at its head, behind its head, as a PART, behind a SUM
            faulty(0, "" + other);
            faulty(other == ';' ? 6 : 5, "takes" + other);
            faulty(other == '[' ? 7 : 6, "sells " + other);
            faulty(other == ';' || "+-*/".indexOf(other) >= 0 ? 8 : 7, "sells 1" + other);
            faulty("([".indexOf(other) >= 0 ? 10 : 9, "takes if " + other);
        }
        faulty(0, "");
        faulty(1, " ");
        faulty(400, " ".repeat(400));
    }

    private static void lawClauses() {
        String twelve = "sells 1;".repeat(3) + "draws 1;".repeat(3) + "wants 1;".repeat(3) + "takes;takes;takes";
        sound(twelve);
        int behind = twelve.length();
        faulty(behind + 1, twelve + ";");
        faulty(behind + 4, twelve + ";   ");
        faulty(behind + 1, twelve + ";takes");
        faulty(behind + 3, twelve + ";  takes");
        faulty(behind + 1, twelve + ";foo");
        faulty(behind + 1, twelve + ";;");
        faulty(behind + 1, twelve + " foo");
        faulty(0, ";takes");
        faulty(6, "takes;");
        faulty(8, "takes;  ");
        faulty(6, "takes;;");
        // a FAULT in the twelfth, before the 13th
        String eleven = "takes;".repeat(11);
        faulty(eleven.length() + 6, eleven + "takes 1;takes");
    }

    private static void lawParts() {
        // 50 in one SUM, in several CLAUSES, in TESTS, within brackets
        sound("sells 1" + "+1".repeat(49));
        faulty(106, "sells 1" + "+1".repeat(49) + "+1");
        faulty(106, "sells 1" + "+1".repeat(49) + "+age");
        faulty(106, "sells 1" + "+1".repeat(49) + "+1001");
        faulty(106, "sells 1" + "+1".repeat(49) + "+foo");
        faulty(106, "sells 1" + "+1".repeat(49) + "+");
        faulty(107, "sells 1" + "+1".repeat(49) + "+[1]");
        sound("sells 1" + ";sells 1".repeat(9) + ";sells 1" + "+1".repeat(39));
        faulty(172, "sells 1" + ";sells 1".repeat(9) + ";sells 1" + "+1".repeat(39) + ";draws 1");
        sound("takes if 1=1" + " or 1=1".repeat(24));
        String tests = "takes if 1=1" + " or 1=1".repeat(24);
        faulty(tests.length() + 4, tests + " or 1=1");
        faulty(tests.length() + 10, tests + " and (not age=1)");
        sound("sells [[1]]" + "+[1]".repeat(49));
        faulty(209, "sells [[1]]" + "+[1]".repeat(49) + "+[1]");
        sound("sells book+kind+worth+age+price+place+week+rain+crowd+since" + "+1".repeat(40));
        faulty(140, "sells book+kind+worth+age+price+place+week+rain+crowd+since" + "+1".repeat(40) + "+1");
        shop("sells 1" + "+1".repeat(49));
        books(1);
        due("all of them", 50, x.chance(0, 0, 0, 0));
    }

    private static void lawBrackets() {
        for (int round = 0; round <= 8; round++) {
            int square = 8 - round;
            String text = "takes if " + "(".repeat(round) + "[".repeat(square) + "1" + "]".repeat(square) + "=1" + ")".repeat(round);
            shop(text);
            books(1);
            due("takes", 1, x.asks(0, 1));
            faulty(17, text.replace("1", "[1]").replace("=[1]", "=1"));
            faulty(9 + round, text.replace("[", "(").replaceFirst("\\(+1", "(".repeat(round) + "]1"));
        }
        faulty(17, "takes if " + "(".repeat(9));
        faulty(17, "takes if " + "(".repeat(8) + "[");
        faulty(14, "sells " + "[".repeat(9));
        faulty(14, "sells " + "[".repeat(8));
        faulty(15, "sells " + "[".repeat(8) + "1");
        // those that are closed do not count
        sound("sells " + "[1]+".repeat(20) + "[[[[[[[[1]]]]]]]]");
        sound("takes if (1=1)" + " or (1=1)".repeat(15) + " and ((((((((1=1))))))))");
        // a number stands open at each of them
        shop("sells 1+1*[1+1*[1+1*[1+1*[1+1*[1+1*[1+1*[1+1*[7]]]]]]]]");
        books(1);
        due("a sum at each of them", 15, x.chance(0, 0, 0, 0));
        // 9 - 3 * 42 on the left, 9 - 2 * 63 on the right
        shop("sells 77 if 9+3*[2-2*[2-2*[2-2*[2-2*[2-2*[2-2*[2-2*[1]]]]]]]]=9-2*[1+1*[1+1*[1+1*[1+1*[1+1*[1+1*[57]]]]]]]");
        books(1);
        due("on both sides", 77, x.chance(0, 0, 0, 0));
    }

    private static void lawFaults() {
        faulty(400, "takes if " + "1=1 or ".repeat(20) + "1=" + " ".repeat(249));
        faulty(399, "takes" + " ".repeat(394) + "1");
        faulty(395, "takes" + " ".repeat(390) + "sells");
        sound("takes" + " ".repeat(395));
        sound(" ".repeat(395) + "takes");
        faulty(5, "takes()");
        faulty(10, "takes if ()");
        faulty(11, "takes if ((");
        faulty(14, "takes if (1=1 1)");
        faulty(14, "takes if (1=1 ]");
        faulty(14, "takes if (1=1 ;");
        faulty(12, "takes if 1=1)");
        faulty(12, "takes if 1=1]");
        faulty(12, "takes if not");
        faulty(13, "takes if not ;");
        faulty(16, "takes if not not");
        faulty(10, "takes if 1");
        faulty(11, "takes if 1 or 1=1");
        faulty(10, "takes if 1;takes");
        faulty(11, "takes if 1<=1");
        faulty(12, "takes if 1=1<2");
        faulty(11, "takes if 1=");
        faulty(11, "takes if 1=not 1=1");
        faulty(11, "takes if 1=(1)");
        faulty(11, "takes if [1=1]");
        faulty(12, "takes if [1+(1");
        faulty(15, "takes if 1=1 or");
        faulty(16, "takes if 1=1 and");
        faulty(17, "takes if 1=1 and if");
        faulty(17, "takes if 1=1 and or 1=1");
        faulty(13, "takes if 1=1 takes");
        faulty(13, "takes if 1=1 not 1=1");
        faulty(5, "sells");
        faulty(6, "sells ");
        faulty(6, "sells +1");
        faulty(6, "sells ;");
        faulty(6, "sells ]");
        faulty(6, "sells <1");
        faulty(7, "sells 1<1");
        faulty(10, "sells 1 if");
        faulty(7, "sells [");
        faulty(7, "sells []");
        faulty(7, "sells [;");
        faulty(8, "sells [1;");
        faulty(8, "sells [1)");
        faulty(9, "sells [1 1]");
        faulty(9, "sells [1]1");
        faulty(9, "sells [1][");
        faulty(8, "sells 1-");
        faulty(8, "sells 1--1");
        faulty(8, "sells 1/*1");
        faulty(11, "sells 1 if if");
        faulty(15, "sells 1 if 1=1;");
    }

    private static void force() {
        fresh();
        due("none but NONE", -2, x.force(0));
        due("NONE", NONE, x.force(NONE));
        due("status", 0, x.status());
        law("sells 1");
        law("sells 2");
        due("NONE was", NONE, x.force(0));
        due("the first was", 0, x.force(1));
        for (int wrong : new int[] {2, -2, LEAST, MOST}) {
            due("force " + wrong, -2, x.force(wrong));
        }
        due("REFUSED: as it was", 1, x.count(11));
        due("which was", 1, x.force(NONE));
        due("which was", NONE, x.force(1));
        due("the same one again", 1, x.force(1));
        due("in FORCE", 1, x.count(11));
    }

    private static void chance() {
        shop("sells 20");
        books(2);
        bounds("chance book", NONE, 0, 1, v -> x.chance(v, 0, 0, 0));
        bounds("chance price", NONE, 0, 2000, v -> x.chance(0, v, 0, 0));
        bounds("chance weeks", NONE, 0, 51, v -> x.chance(0, 0, v, 0));
        bounds("chance crowd", NONE, 0, 999, v -> x.chance(0, 0, 0, v));
        due("not REFUSED", 0, x.status());
        shop("sells price/20");
        books(1);
        due("at 2000", 100, x.chance(0, 2000, 0, 0));
        due("at 1999", 99, x.chance(0, 1999, 0, 0));
        due("at 0", 0, x.chance(0, 0, 0, 0));
        shop("sells crowd-900");
        books(1);
        due("with 999", 99, x.chance(0, 0, 0, 999));
        shop("sells week");
        books(1);
        for (int week = 0; week <= 51; week++) {
            x.terms(0, week);
            due("this week", week, x.chance(0, 0, 0, 0));
            due("next week", week == 51 ? 0 : week + 1, x.chance(0, 0, 1, 0));
            due("51 weeks on", week == 0 ? 51 : week - 1, x.chance(0, 0, 51, 0));
        }
        shop("sells age-60");
        x.book(0, 0, 99, 0, 0);
        due("of 99", 39, x.chance(0, 0, 0, 0));
        due("of 150", 90, x.chance(0, 0, 51, 0));
        due("AGE stays", 99, x.of(0, 2));
        shop("sells worth-900; sells kind if rain=1; sells place if rain=1 and kind=2; sells book if worth=0");
        x.book(9, 999, 0, 0, 0);
        x.book(2, 999, 0, 0, 2);
        x.book(2, 0, 0, 0, 2);
        due("by WORTH", 99, x.chance(0, 0, 0, 0));
        x.terms(1, 1);
        due("by KIND", 9, x.chance(0, 0, 0, 0));
        due("where it stands", 2, x.chance(1, 0, 0, 0));
        due("its number", 2, x.chance(2, 0, 0, 0));
        x.drop(0);
        due("its number, moved up", 1, x.chance(1, 0, 0, 0));
    }

    private static void notTold() {
        // crowd and since are 0 where they are not told, whatever was asked with them ahead
        shop("sells 70 if crowd=0 and since=0; draws 7 if crowd=0 and since=0; wants 70 if crowd=0; takes if crowd=0 and since=0");
        x.book(0, 200, 0, 100, 1);
        x.book(0, 10, 0, 50, 0);
        x.card(0, 99, 10);
        x.chance(0, 0, 0, 999);
        due("stands", 30, x.stands(0, 1));
        x.chance(0, 0, 0, 999);
        x.terms(2, 99);
        // 200 at 70 of a hundred less 99
        due("write", 4100, x.write(1, 1));
        x.chance(0, 0, 0, 999);
        due("wants", 70, x.wants(0, 0));
        due("chance behind wants", 70, x.chance(0, 0, 0, 0));
        x.wants(0, 0);
        due("asks", 7, x.asks(0, 0));
        x.chance(0, 0, 0, 999);
        due("asks", 1, x.asks(0, 1));
        x.chance(0, 0, 0, 999);
        due("dealer", 1, x.dealer(0));
        x.chance(0, 0, 0, 999);
        due("brings", 10000 + 50 * 70, x.brings());
        x.wants(0, 0);
        due("income, no crowd", 150 * 70, x.income(0));
        due("income, a crowd", 150 * 10, x.income(1));
        x.chance(0, 0, 0, 999);
        // one for 190 to the dealer, the other one for 200 at 70 of a hundred
        due("bait", 33000, x.bait(0, 1, 2));
    }

    private static void clamped() {
        int[] sums = {-1000, -1, 0, 1, 98, 99, 100, 101, 1000};
        for (int sum : sums) {
            String text = sum < 0 ? "0-" + -sum : "" + sum;
            shop("sells " + text + ";draws " + text + ";wants " + text);
            books(1);
            x.card(0, 0, 0);
            due("CHANCE of " + sum, Math.max(0, Math.min(100, sum)), x.chance(0, 0, 0, 0));
            due("draws of " + sum, Math.max(0, Math.min(99, sum)), x.asks(0, 0));
            due("wants of " + sum, Math.max(0, Math.min(100, sum)), x.wants(0, 0));
        }
        shop("sells 1000*1000*1000; draws 1000*1000*1000; wants 0-1000*1000*1000");
        books(1);
        x.card(0, 0, 0);
        due("the nearest", 100, x.chance(0, 0, 0, 0));
        due("the nearest", 99, x.asks(0, 0));
        due("the nearest", 0, x.wants(0, 0));
        shop("takes if 1=2");
        books(1);
        x.card(0, 0, 0);
        due("10 without", 10, x.chance(0, 0, 0, 0));
        due("0 without", 0, x.asks(0, 0));
        due("50 without", 50, x.wants(0, 0));
        due("not taken without", 0, x.asks(0, 1));
        fresh();
        books(1);
        x.card(0, 0, 0);
        law("sells 1;draws 1;wants 1;takes");
        due("no LAW in FORCE: 10", 10, x.chance(0, 0, 0, 0));
        due("no LAW in FORCE: 0", 0, x.asks(0, 0));
        due("no LAW in FORCE: 50", 50, x.wants(0, 0));
        due("no LAW in FORCE: not taken", 0, x.asks(0, 1));
    }

    private static void broken() {
        String most = "1000*1000*1000";
        holds(true, "sells " + most);
        holds(true, "sells " + most + "+0");
        holds(false, "sells " + most + "+1");
        holds(false, "sells " + most + "+1-1");
        holds(false, "sells 1+" + most);
        holds(true, "sells " + most + "-1+1");
        holds(true, "sells 0-" + most);
        holds(false, "sells 0-" + most + "-1");
        holds(false, "sells 0-1-" + most);
        holds(false, "sells 0-[" + most + "+1]");
        holds(true, "sells 1-" + most);
        holds(false, "sells " + most + "*2");
        holds(false, "sells " + most + "*2/2");
        holds(false, "sells [0-" + most + "]*2");
        holds(false, "sells " + most + "*1000*1000*1000*1000*0");
        holds(true, "sells [0-" + most + "]*[0-1]");
        holds(true, "sells " + most + "/" + "[" + most + "]");
        holds(false, "sells 1/0");
        holds(false, "sells 0/0");
        holds(false, "sells 0/rain");
        holds(false, "sells 5/[3-3]");
        holds(true, "sells 0/1");
        holds(false, "sells 1/[1/2]");
        holds(false, "sells [1/0]*0");
        holds(false, "sells 1 if " + most + "+1>1");
        holds(false, "sells 1 if 1<" + most + "+1");
        holds(false, "sells 1 if not " + most + "+1=1");
        holds(false, "sells 1 if not not (1/0=1)");
        holds(true, "sells 1 if 1=1 or 1/0=1");
        holds(false, "sells 1 if 1/0=1 or 1=1");
        holds(false, "sells 1 if 1=2 or 1/0=1 or 1=1");
        holds(true, "sells 1 if 1=2 or 1=1 or 1/0=1");
        holds(true, "sells 1 if not (1=2 and 1/0=1)");
        holds(false, "sells 1 if not (1=1 and 1/0=1)");
        holds(false, "sells 1 if not (1/0=1 and 1=2)");
        holds(true, "sells 1 if 1=1 or 1=1 and 1/0=1");
        holds(true, "sells 1 if 1=2 and 1/0=1 or 1=1");
        holds(true, "sells 1 if 1=2 and 1=1 and 1/0=1 or 1=1");
        holds(false, "sells 1 if 1=1 and 1/0=1 or 1=1");
        holds(true, "sells 1 if 1=1 and 1=1 or 1/0=1 and 1=1");
        holds(true, "sells 1 if (1=2 or 1=1) and (1=1 or 1/0=1)");
        holds(false, "sells 1 if (1=2 or 1=1) and (1=2 or 1/0=1)");
        holds(true, "sells 1 if not (not (1=1 or 1/0=1))");
        holds(true, "sells 1 if 1=2 and (1=1 or 1/0=1) or not 1=2");
        holds(false, "sells 1/0 if 1=1");
        holds(false, "sells 1/0 if 1=2 or 1=1");
        // cut towards 0, from the left, * and / ahead of + and -
        int[][] cuts = {{7, 2, 3}, {-7, 2, -3}, {7, -2, -3}, {-7, -2, 3}, {1, 2, 0}, {-1, 2, 0}, {0, -5, 0}, {6, -3, -2}};
        for (int[] cut : cuts) {
            shop("sells 50+[0+" + (cut[0] < 0 ? "0-" + -cut[0] : "" + cut[0]) + "]/[0+"
                    + (cut[1] < 0 ? "0-" + -cut[1] : "" + cut[1]) + "]");
            books(1);
            due(cut[0] + " / " + cut[1], 50 + cut[2], x.chance(0, 0, 0, 0));
        }
        String[] sums = {"10-4-3", "100/10/2", "7/2*2", "2*7/2", "1+2*3", "[1+2]*3", "20-6/4*4", "3*2-1*4", "2+6/3-1"};
        int[] told = {3, 5, 6, 7, 7, 9, 16, 2, 3};
        for (int i = 0; i < sums.length; i++) {
            shop("sells " + sums[i]);
            books(1);
            due(sums[i], told[i], x.chance(0, 0, 0, 0));
        }
        // just less, just as much, just more
        for (int age = 4; age <= 6; age++) {
            shop("sells 1 if age<5; draws 1 if age>5; wants 1 if age=5");
            x.book(0, 0, age, 0, 0);
            x.card(0, 0, 0);
            due(age + " < 5", age < 5 ? 1 : 10, x.chance(0, 0, 0, 0));
            due(age + " > 5", age > 5 ? 1 : 0, x.asks(0, 0));
            due(age + " = 5", age == 5 ? 1 : 50, x.wants(0, 0));
        }
    }

    private static void lastThatHolds() {
        shop("sells 1; sells 2 if price>0; draws 90; sells 3 if price>1; sells 4/0 if price>2; sells 5 if price/0=1; takes; wants 91");
        books(1);
        int[] told = {1, 2, 3, 3, 3};
        for (int price = 0; price < told.length; price++) {
            due("the last that HOLDS", told[price], x.chance(0, price, 0, 0));
        }
        shop("takes if price=1; takes if price=2; takes if price=3/0");
        books(1);
        for (int price = 0; price < 4; price++) {
            x.put(0, 3, price);
            due("any that HOLDS", price == 1 || price == 2 ? 1 : 0, x.asks(0, 1));
        }
        shop("sells 60;sells 61 if 1=2;sells 62 if 1=1" + ";sells 63 if 1=2".repeat(9));
        books(1);
        due("of twelve", 62, x.chance(0, 0, 0, 0));
    }

    private static void asks() {
        shop("draws 5+place; takes if place=0 and price=999");
        x.book(0, 0, 0, 999, 0);
        x.book(0, 0, 0, 998, 2);
        bounds("asks book", NONE, 0, 1, v -> x.asks(v, 0));
        bounds("asks book", NONE, 0, 1, v -> x.asks(v, 1));
        bounds("asks what", NONE, 0, 1, v -> x.asks(0, v));
        due("on the table", 6, x.asks(0, 0));
        due("on the table", 6, x.asks(1, 0));
        due("where it stands", 1, x.asks(0, 1));
        due("where it stands", 0, x.asks(1, 1));
        due("it stays where it is", 2, x.of(1, 4));
        due("not REFUSED", 0, x.status());
    }

    // ---- promises 16 to 18

    private static void write() {
        fresh();
        books(2);
        bounds("write book", NOTHING, 0, 1, v -> x.write(v, 1));
        bounds("write n", NOTHING, 1, 6, v -> x.write(0, v));
        due("not REFUSED", 0, x.status());
        // the GRID's ends: nothing sells above 20 times, below once what PRICES go by
        shop("sells 100 if price=20; sells 0 if not price=20");
        x.book(0, 0, 0, 0, 0);
        x.terms(2, 0);
        x.terms(5, 1);
        due("20 times", 2000, x.write(0, 1));
        due("20 times", 20, x.pencil(0, 1, 0));
        x.terms(5, 20);
        due("once", 2000, x.write(0, 1));
        due("once", 20, x.pencil(0, 1, 0));
        x.terms(5, 21);
        due("not at all", 0, x.write(0, 1));
        due("its own of 0", 0, x.pencil(0, 1, 0));
        x.put(0, 3, 20);
        due("its own beside the GRID", 2000, x.write(0, 1));
        due("its own beside the GRID", 20, x.pencil(0, 1, 0));
        // the most there is: 1980 by 100 of a hundred, at once or in the last week alone
        shop("sells 100");
        x.book(0, 0, 0, 999, 0);
        x.terms(5, 99);
        x.terms(2, 99);
        long whole = 1;
        for (int n = 1; n <= 6; n++) {
            whole *= 100;
            due("at once", (1980 - 99) * whole, x.write(0, n));
        }
        shop("sells 0; sells 100 if age=5");
        x.book(0, 0, 0, 999, 0);
        x.terms(5, 99);
        x.terms(2, 0);
        x.terms(3, 999);
        due("in the last week", 1980 * whole, x.write(0, 6));
        due("LEFT", 999 * whole / 100, x.write(0, 5));
        x.put(0, 2, 6);
        due("LEFT alone", 999 * whole, x.write(0, 6));
        // RUB as much as it brings more: as it is
        shop("sells 0; sells 50 if price=100");
        x.book(0, 0, 0, 7, 0);
        x.terms(3, 0);
        x.terms(2, 50);
        due("RUB", 0, x.write(0, 1));
        due("as it is", 7, x.pencil(0, 1, 0));
        x.terms(2, 49);
        due("RUB", 100, x.write(0, 1));
        due("written", 100, x.pencil(0, 1, 0));
        // RUB once for two weeks: 5000 now, half of it again: 750000 less 49 of ten thousand
        due("rubbed once", 260000, x.write(0, 2));
        x.terms(2, 75);
        due("as much for two weeks", 0, x.write(0, 2));
        due("as it is", 7, x.pencil(0, 2, 0));
        x.terms(2, 74);
        due("a little more for two weeks", 10000, x.write(0, 2));
        due("written", 100, x.pencil(0, 2, 0));
        due("and left", 100, x.pencil(0, 2, 1));
        due("PRICE stays", 7, x.of(0, 3));
        // behind week 51 comes 0
        shop("sells 0; sells 100 if week=0");
        x.book(0, 0, 0, 50, 0);
        x.terms(2, 99);
        x.terms(0, 51);
        due("next week", 0, x.write(0, 1));
        due("next week", 500000 + 10000 * 51, x.write(0, 2));
    }

    private static void pencil() {
        fresh();
        books(2);
        bounds("pencil book", NONE, 0, 1, v -> x.pencil(v, 1, 0));
        bounds("pencil n", NONE, 1, 6, v -> x.pencil(0, v, 0));
        for (int n = 1; n <= 6; n++) {
            int weeks = n;
            bounds("pencil i of " + n, NONE, 0, n - 1, v -> x.pencil(0, weeks, v));
        }
        due("n of 0", NONE, x.pencil(0, 0, 0));
        due("n of 0", NONE, x.pencil(0, 0, -1));
        due("n of 7", NONE, x.pencil(0, 7, 6));
        due("least n", NONE, x.pencil(0, LEAST, 0));
        due("not REFUSED", 0, x.status());
        // each week another one, the lowest of the best, all the way
        shop("sells 0; sells 50 if price/10=age+1 and price<70; sells 50 if price=55");
        x.book(0, 0, 0, 0, 0);
        x.terms(2, 0);
        x.terms(5, 5);
        // 55 is the best in each week but the sixth, where 60 and 65 sell, too: 65 the best
        for (int i = 0; i < 5; i++) {
            due("pencil", 55, x.pencil(0, 6, i));
        }
        due("pencil", 65, x.pencil(0, 6, 5));
        due("of five weeks the last", 55, x.pencil(0, 5, 4));
        shop("sells 100 if price=10+10*age; sells 0 if not price=10+10*age");
        x.book(0, 0, 0, 30, 0);
        x.terms(2, 1);
        // in each week one PRICE sells: of three weeks the last one's is its own
        due("it waits", 30, x.pencil(0, 3, 0));
        due("it waits", 30, x.pencil(0, 3, 1));
        due("it waits", 30, x.pencil(0, 3, 2));
        due("it waits for all", 30 * 1000000, x.write(0, 3));
        // of six weeks the last one's is 60: written when its own would sell, not ahead of that
        for (int i = 0; i < 6; i++) {
            due("written in the third", i < 2 ? 30 : 60, x.pencil(0, 6, i));
        }
        due("less RUB", 59L * 100 * 100 * 100 * 100 * 100 * 100, x.write(0, 6));
        shop("sells 0; sells 40 if price=10; sells 20 if price=20");
        x.book(0, 0, 0, 0, 0);
        due("the lowest of two", 10, x.pencil(0, 1, 0));
        // equally good: its own, then the lowest
        shop("sells 0; sells 10 if price=40; sells 20 if price=20; sells 5 if price=80");
        x.book(0, 0, 0, 80, 0);
        x.terms(2, 0);
        due("its own", 80, x.pencil(0, 1, 0));
        x.put(0, 3, 40);
        due("its own", 40, x.pencil(0, 1, 0));
        x.put(0, 3, 81);
        due("the lowest", 20, x.pencil(0, 1, 0));
    }

    private static void stands() {
        shop("sells 99-age; sells 100 if price=1");
        books(2);
        bounds("stands book", NOTHING, 0, 1, v -> x.stands(v, 0));
        bounds("stands n", NOTHING, 0, 6, v -> x.stands(0, v));
        due("not REFUSED", 0, x.status());
        long likely = 1;
        for (int n = 0; n <= 6; n++) {
            due("stands", likely, x.stands(0, n));
            likely *= n + 1;
        }
        x.put(0, 3, 1);
        due("it has sold", 0, x.stands(0, 1));
        due("not within no weeks", 1, x.stands(0, 0));
        shop("sells 0");
        books(1);
        due("it never sells", 1000000000000L, x.stands(0, 6));
        shop("sells 0; sells 100 if week=0");
        books(1);
        x.terms(0, 51);
        due("this week it does not", 100, x.stands(0, 1));
        due("behind 51 it does", 0, x.stands(0, 2));
    }

    // ---- promises 19 to 22

    private static long oneBox(int size, int good, int worth) {
        fresh();
        return x.box(size, good, worth);
    }

    private static void box() {
        bounds("box SIZE", -1, 1, 20, v -> oneBox(v, 0, 0));
        for (int size : new int[] {1, 7, 20}) {
            bounds("box GOOD of " + size, -1, 0, size, v -> oneBox(size, v, 0));
        }
        bounds("box WORTH", -1, 0, 9999, v -> oneBox(1, 0, v));
        fresh();
        for (int boxes = 1; boxes <= 12; boxes++) {
            due("how many were", boxes, x.box(1, 0, boxes));
        }
        due("the 13th", -5, x.box(1, 0, 0));
        due("-1 ahead of -5", -1, x.box(0, 0, 0));
        due("-1 ahead of -5", -1, x.box(1, 2, 0));
        due("12 at most", 12, x.count(2));
        due("status", -1, x.status());
        x.unbox(0);
        due("room again", 12, x.box(1, 0, 0));
    }

    private static void unbox() {
        fresh();
        for (int i = 0; i < 12; i++) {
            x.box(i + 1, 0, i);
        }
        bounds("unbox", -2, 0, 10, v -> x.unbox(v));
        due("left", 10, x.count(2));
        due("the first is out", NOTHING, x.worth(1, 0, 0, 0));
        due("the last is out", NOTHING, x.worth(12, 0, 0, 0));
        for (int size = 2; size <= 11; size++) {
            due("the others stay", size - 1, x.worth(size, 0, 0, 0));
        }
        due("left", 9, x.unbox(4));
        due("the fifth of them", NOTHING, x.worth(6, 0, 0, 0));
        for (int left = 8; left >= 0; left--) {
            due("left", left, x.unbox(0));
        }
        due("none left", -2, x.unbox(0));
        due("none left", NOTHING, x.worth(11, 0, 0, 0));
    }

    private static void worth() {
        fresh();
        x.box(5, 2, 30);
        x.box(5, 4, 70);
        x.box(1, 1, 9999);
        x.box(20, 10, 0);
        bounds("worth what", NOTHING, 0, 1, v -> x.worth(5, 0, 0, v));
        bounds("worth k", NOTHING, 0, 5, v -> x.worth(5, v, v / 2, 0));
        due("size of none", NOTHING, x.worth(2, 0, 0, 0));
        for (int size : new int[] {0, -1, 21, LEAST, MOST}) {
            due("size", NOTHING, x.worth(size, 0, 0, 0));
        }
        due("g above k", NOTHING, x.worth(5, 2, 3, 0));
        due("g below 0", NOTHING, x.worth(5, 2, -1, 0));
        due("g", NOTHING, x.worth(5, 2, MOST, 0));
        due("both beyond", NOTHING, x.worth(5, 6, 6, 0));
        due("both below", NOTHING, x.worth(5, -1, -1, 0));
        due("more GOOD than any has", NOTHING, x.worth(5, 5, 5, 0));
        due("fewer GOOD than any has", NOTHING, x.worth(5, 5, 1, 0));
        due("all seen", 30, x.worth(5, 5, 2, 0));
        due("all seen", 1, x.worth(5, 5, 2, 1));
        due("all seen", 70, x.worth(5, 5, 4, 0));
        due("seen none", 50, x.worth(5, 0, 0, 0));
        // one GOOD: 2/5 and 4/5: (60 + 280) / 6
        due("one GOOD", 170, x.worth(5, 1, 1, 0));
        due("one GOOD", 3, x.worth(5, 1, 1, 1));
        // one of two: 6/10 and 4/10: (180 + 280) / 10
        due("one of two", 46, x.worth(5, 2, 1, 0));
        due("one of two", 1, x.worth(5, 2, 1, 1));
        due("two that are not GOOD", 30, x.worth(5, 2, 0, 0));
        due("the least SIZE", 9999, x.worth(1, 1, 1, 0));
        due("WORTH 0", 0, x.worth(20, 10, 5, 0));
        due("WORTH 0 in lowest terms", 1, x.worth(20, 10, 5, 1));
        due("the same of the SIZE", NOTHING, x.worth(1, 1, 0, 0));
        due("not REFUSED", 0, x.status());
        // 21 times 13 ways and 78 times 7: (27300 + 546000) / 819
        fresh();
        x.box(20, 7, 100);
        x.box(20, 13, 1000);
        due("two of three", 700, x.worth(20, 3, 2, 0));
        due("two of three", 1, x.worth(20, 3, 2, 1));
        // the most ways: ten of twenty
        fresh();
        for (int i = 0; i < 12; i++) {
            x.box(20, 10, 9999 - i % 2);
        }
        due("the greatest", 19997, x.worth(20, 10, 5, 0));
        due("the greatest", 2, x.worth(20, 10, 5, 1));
    }

    private static void glance() {
        fresh();
        x.box(5, 2, 30);
        x.box(5, 4, 70);
        x.box(1, 1, 8);
        bounds("glance what", NOTHING, 0, 1, v -> x.glance(5, 0, 0, 0, v));
        bounds("glance sum", NOTHING, 0, 9999, v -> x.glance(5, 0, 0, v, 0));
        bounds("glance k", NOTHING, 0, 4, v -> x.glance(5, v, v / 2, 0, 0));
        bounds("glance g", NOTHING, 0, 2, v -> x.glance(5, 2, v, 0, 0));
        due("k is SIZE", NOTHING, x.glance(5, 5, 2, 0, 0));
        due("k is SIZE", NOTHING, x.glance(1, 1, 1, 0, 0));
        for (int size : new int[] {0, -1, 2, 21, LEAST, MOST}) {
            due("size", NOTHING, x.glance(size, 0, 0, 0, 0));
            due("size", NOTHING, x.glance(size, -1, 0, 0, 0));
        }
        due("no BOX shows that", NOTHING, x.glance(5, 4, 0, 0, 0));
        // nothing seen, for 50: without 0; GOOD (6/10) 170/3 - 50 = 20/3: 4; not GOOD 0
        due("for 50", 4, x.glance(5, 0, 0, 50, 0));
        due("for 50", 1, x.glance(5, 0, 0, 50, 1));
        // for 45: without 5; GOOD (6/10) 35/3: 7; not (4/10) 40 - 45: 0; 2 more
        due("for 45", 2, x.glance(5, 0, 0, 45, 0));
        // for 40: without 10, with 10: not GOOD it is WORTH (90 + 70) / 4 = 40 just so
        due("for 40", 0, x.glance(5, 0, 0, 40, 0));
        due("for 40", 1, x.glance(5, 0, 0, 40, 1));
        due("for 39", 0, x.glance(5, 0, 0, 39, 0));
        // for 41: without 9, GOOD (6/10) 47/3: 47/5: 2/5 more
        due("for 41", 2, x.glance(5, 0, 0, 41, 0));
        due("for 41", 5, x.glance(5, 0, 0, 41, 1));
        // for 57: GOOD is less than that
        due("for 57", 0, x.glance(5, 0, 0, 57, 0));
        // for 56: GOOD (6/10) 2/3: 2/5
        due("for 56", 2, x.glance(5, 0, 0, 56, 0));
        due("for 56", 5, x.glance(5, 0, 0, 56, 1));
        // one GOOD of two, for 46: left 3, of the first 1 GOOD, of the other 3: 6/10 and 4/10
        // GOOD: 6/10 1/3 + 4/10 = 6/10: (6 + 28) / (6/10) = 170/3 less 46: 32/3 6/10 = 32/5; without 0
        due("of two, for 46", 32, x.glance(5, 2, 1, 46, 0));
        due("of two, for 46", 5, x.glance(5, 2, 1, 46, 1));
        // for 40: without 6; GOOD (6/10) 50/3: 10; not GOOD it is WORTH 30
        due("of two, for 40", 4, x.glance(5, 2, 1, 40, 0));
        due("of two, for 40", 1, x.glance(5, 2, 1, 40, 1));
        // for 29: bought in any case
        due("of two, for 29", 0, x.glance(5, 2, 1, 29, 0));
        // the last one: two GOOD of four is the first (its last one not GOOD): nothing more
        due("the last one", 0, x.glance(5, 4, 2, 50, 0));
        due("the last one", 1, x.glance(5, 4, 2, 50, 1));
        due("of a SIZE of 1", 0, x.glance(1, 0, 0, 8, 0));
        due("not REFUSED", 0, x.status());
        fresh();
        x.box(1, 0, 0);
        x.box(1, 1, 9999);
        // without 0 (WORTH 4999 1/2); GOOD (1/2) 4999
        due("for 5000", 4999, x.glance(1, 0, 0, 5000, 0));
        due("for 5000", 2, x.glance(1, 0, 0, 5000, 1));
        // without 4999 1/2 - 4999 = 1/2; with 2500
        due("for 4999", 4999, x.glance(1, 0, 0, 4999, 0));
        due("for 4999", 2, x.glance(1, 0, 0, 4999, 1));
        due("for 9999", 0, x.glance(1, 0, 0, 9999, 0));
        due("for 0", 0, x.glance(1, 0, 0, 0, 0));
    }

    // ---- promises 23, 24

    private static void income() {
        fresh();
        due("no BOOKS", 0, x.income(0));
        x.book(0, 0, 0, 100, 0);
        x.book(0, 0, 0, 200, 1);
        x.book(0, 0, 0, 400, 2);
        bounds("income", NOTHING, 0, 3, v -> x.income(v));
        due("in the window", NOTHING, x.income(4));
        due("in the window, too", NOTHING, x.income(7));
        due("not there", NOTHING, x.income(8));
        due("not there", NOTHING, x.income(1 << 10));
        due("not there", NOTHING, x.income(1 << 30));
        due("10 of a hundred each", 7000, x.income(0));
        x.put(2, 4, 0);
        due("no longer in the window", 7000, x.income(4));
        due("not REFUSED", 0, x.status());
        shop("draws 99; sells 1; sells 2 if place=1; sells 4 if place=2; sells 90 if crowd=99; sells 99 if crowd=990");
        for (int i = 0; i < 10; i++) {
            x.book(0, 0, 0, 1, i < 5 ? 0 : 1);
        }
        due("all on the shelf", 10, x.income(0));
        due("the greatest crowd", 990, x.income(1023));
        due("two on the table", 8 + 4, x.income(3));
        due("one on the table", 900, x.income(512));
        x.put(0, 4, 2);
        due("one in the window", 9 + 4, x.income(0));
        due("one in the window", 4 + 2 * 9, x.income(1022));
        due("beyond ten", NOTHING, x.income(1024));
        // with 999 each by 100
        shop("sells 100");
        for (int i = 0; i < 10; i++) {
            x.book(0, 0, 0, 999, 0);
        }
        due("the most", 999000, x.income(0));
        due("the most", 999000, x.income(1023));
        // after another LAW, other TERMS, other BOOKS it is asked again
        law("sells 1+rain");
        x.force(1);
        due("asked again", 9990, x.income(0));
        x.terms(1, 1);
        due("asked again", 19980, x.income(0));
        x.put(0, 3, 0);
        due("asked again", 17982, x.income(0));
    }

    private static void best() {
        // this week, with its AGE
        shop("sells 0; sells 9 if age=5 and week=51; draws 0; draws 3 if age=5 and week=51");
        x.book(0, 0, 5, 10, 0);
        x.terms(0, 51);
        due("income this week", 90, x.income(0));
        due("draws this week", 0, x.best(1, 1));
        shop("sells crowd; draws 0; draws 3 if age=5 and week=51");
        x.book(0, 0, 5, 10, 0);
        x.terms(0, 51);
        due("draws this week", 30, x.income(1));
        due("draws this week", 3, x.best(1, 1));
        fresh();
        bounds("best m", NONE, 0, 10, v -> x.best(v, 0));
        bounds("best what", NONE, 0, 2, v -> x.best(0, v));
        due("not REFUSED", 0, x.status());
        books(10);
        due("all as much", 0, x.best(10, 0));
        due("of ten", 1024, x.best(10, 2));
        due("of nine", 1023, x.best(9, 2));
        due("of one", 11, x.best(1, 2));
        due("of none", 1, x.best(0, 2));
        for (int i = 0; i < 10; i++) {
            x.put(i, 4, 2);
        }
        due("all in the window", 0, x.best(10, 0));
        due("all in the window", 1, x.best(10, 2));
        shop("sells 0; sells 50 if place=1; draws 5");
        x.book(0, 0, 0, 10, 1);
        x.book(0, 0, 0, 0, 2);
        x.book(0, 0, 0, 10, 0);
        x.book(0, 0, 0, 10, 0);
        due("the lowest of two", 5, x.best(2, 0));
        due("its crowd", 10, x.best(2, 1));
        due("as much", 3, x.best(2, 2));
        due("not that in the window", 13, x.best(4, 0));
        due("its crowd", 15, x.best(4, 1));
        due("alone", 1, x.best(4, 2));
        due("of one", 1, x.best(1, 0));
        due("of one", 3, x.best(1, 2));
        due("of none", 0, x.best(0, 0));
        due("of none", 0, x.best(0, 1));
        due("PLACES stay", 0, x.of(2, 4));
        // more of a crowd is worse: none but the one that draws nobody
        shop("draws 1; draws 0 if book=1; sells 50-crowd*20; sells 60-crowd*20 if place=1");
        x.book(0, 0, 0, 10, 1);
        x.book(0, 0, 0, 10, 1);
        x.book(0, 0, 0, 10, 1);
        due("all others to the shelf", 2, x.best(3, 0));
        due("no crowd", 0, x.best(3, 1));
        due("best", 1, x.best(3, 2));
        due("as they stand", 3 * 10 * 20, x.income(7));
    }

    // ---- promises 25 to 28

    private static long oneCard(int kind, int since, int sum) {
        fresh();
        return x.card(kind, since, sum);
    }

    private static void card() {
        bounds("card KIND", -1, 0, 9, v -> oneCard(v, 0, 0));
        bounds("card since", -1, 0, 99, v -> oneCard(0, v, 0));
        bounds("card sum", -1, 0, 999, v -> oneCard(0, 0, v));
        fresh();
        for (int card = 0; card < 8; card++) {
            due("its number", card, x.card(0, 0, 0));
        }
        due("the ninth", -5, x.card(0, 0, 0));
        due("-1 ahead of -5", -1, x.card(0, 100, 0));
        due("8 at most", 8, x.count(3));
        x.uncard(7);
        due("room again", 7, x.card(0, 0, 0));
    }

    private static void uncard() {
        shop("wants since");
        books(1);
        for (int card = 0; card < 8; card++) {
            x.card(0, card, 1);
        }
        bounds("uncard", -2, 0, 6, v -> x.uncard(v));
        due("left", 6, x.count(3));
        for (int card = 0; card < 6; card++) {
            due("moved up", card + 1, x.wants(card, 0));
        }
        due("gone", NONE, x.wants(6, 0));
        for (int left = 5; left >= 0; left--) {
            due("left", left, x.uncard(left / 2));
        }
        due("none left", -2, x.uncard(0));
    }

    private static void wants() {
        shop("wants since; wants place*10+kind if since=0; wants price if since=1; wants age+week if since=2");
        x.book(3, 0, 40, 97, 2);
        x.terms(0, 51);
        x.card(9, 99, 0);
        x.card(9, 0, 0);
        x.card(9, 1, 0);
        x.card(9, 2, 0);
        bounds("wants card", NONE, 0, 3, v -> x.wants(v, 0));
        bounds("wants book", NONE, 0, 0, v -> x.wants(0, v));
        due("since", 99, x.wants(0, 0));
        due("where it stands, its KIND", 23, x.wants(1, 0));
        due("at its PRICE", 97, x.wants(2, 0));
        due("this week", 91, x.wants(3, 0));
        due("not REFUSED", 0, x.status());
    }

    private static void keep() {
        fresh();
        due("no CARDS", 0, x.keep(NONE));
        due("no CARDS", NONE, x.keep(0));
        for (int card = 0; card < 8; card++) {
            x.card(5, 0, 999);
        }
        for (int card : new int[] {-2, 8, LEAST, MOST}) {
            due("no such CARD", NONE, x.keep(card));
        }
        due("no BOOKS", 0, x.keep(NONE));
        for (int i = 0; i < 10; i++) {
            x.book(5, 0, 0, 0, 0);
        }
        due("one for each", 8 * 999 * 50, x.keep(NONE));
        for (int card = 0; card < 8; card++) {
            due("the first row", card, x.keep(card));
        }
        for (int i = 0; i < 7; i++) {
            x.put(i, 0, 4);
        }
        due("for three", 3 * 999 * 50, x.keep(NONE));
        for (int card = 0; card < 8; card++) {
            due("NONE ahead of all", card < 5 ? NONE : card + 2, x.keep(card));
        }
        due("not REFUSED", 0, x.status());
        // none for nothing: a sum of 0, a "wants" of 0
        shop("wants 0; wants 1 if book=1");
        x.book(0, 0, 0, 0, 0);
        x.book(0, 0, 0, 0, 0);
        x.card(0, 0, 0);
        x.card(0, 0, 999);
        x.card(0, 0, 5);
        due("the most", 999, x.keep(NONE));
        due("a sum of 0", NONE, x.keep(0));
        due("the better sum", 1, x.keep(1));
        due("a wants of 0", NONE, x.keep(2));
        shop("wants 100");
        x.book(0, 0, 0, 0, 0);
        x.book(1, 0, 0, 0, 0);
        for (int i = 0; i < 8; i++) {
            x.card(2, 0, 999);
        }
        due("of no KIND", 0, x.keep(NONE));
        due("of no KIND", NONE, x.keep(7));
        x.uncard(0);
        x.card(1, 0, 999);
        due("the greatest for one", 99900, x.keep(NONE));
        due("the last CARD", 1, x.keep(7));
        due("keeping takes none", 2, x.count(0));
        // each time anew, with fewer CARDS, fewer BOOKS
        fresh();
        x.book(0, 0, 0, 0, 0);
        for (int sum = 1; sum <= 8; sum++) {
            x.card(0, 0, sum);
        }
        for (int cards = 8; cards > 0; cards--) {
            due("the last CARD's", 50 * cards, x.keep(NONE));
            due("the last CARD's", 0, x.keep(cards - 1));
            x.uncard(cards - 1);
        }
        due("no CARDS", 0, x.keep(NONE));
        x.card(0, 0, 5);
        due("one CARD", 250, x.keep(NONE));
        x.drop(0);
        due("no BOOK", 0, x.keep(NONE));
        due("no BOOK", NONE, x.keep(0));
    }

    // ---- promises 29 to 31

    private static void dealer() {
        shop("takes; sells 0");
        bounds("dealer what", NONE, 0, 1, v -> x.dealer(v));
        due("no BOOKS", 0, x.dealer(0));
        for (int i = 0; i < 10; i++) {
            x.book(0, 100, 0, 99, i % 3);
        }
        for (int hands = 0; hands <= 9; hands++) {
            x.terms(4, hands);
            due("lower ones first", (1 << hands) - 1, x.dealer(0));
            due("pays", 99 * hands, x.dealer(1));
        }
        x.put(0, 3, 100);
        due("WORTH less PRICE of 0", 1022, x.dealer(0));
        x.put(9, 3, 101);
        due("WORTH less PRICE below 0", 510, x.dealer(0));
        x.terms(4, 1);
        x.put(8, 3, 98);
        due("the greatest", 256, x.dealer(0));
        due("pays", 98, x.dealer(1));
        x.put(8, 1, 999);
        x.put(8, 3, 0);
        due("for nothing", 256, x.dealer(0));
        due("pays", 0, x.dealer(1));
        due("not REFUSED", 0, x.status());
        shop("takes if price/0=1");
        x.book(0, 100, 0, 1, 0);
        due("BROKEN", 0, x.dealer(0));
        shop("takes if week=51 and age=5; sells 0; sells 50 if week=51 and age=5");
        x.book(0, 100, 5, 1, 0);
        x.terms(0, 51);
        due("this week", 1, x.dealer(0));
        due("this week", 100, x.brings());
        x.put(0, 3, 100);
        due("this week", 5000, x.brings());
        x.book(0, 200, 6, 1, 0);
        // the first one for 200 at 50 of a hundred is better than for 90 to the dealer; the other one never sells
        due("bait this week", 10000, x.bait(0, 1, 2));
        due("bait this week", 200, x.bait(0, 1, 0));
    }

    private static void brings() {
        shop("takes if kind=1; sells 7");
        due("no BOOKS", 0, x.brings());
        x.book(1, 999, 0, 998, 0);
        due("taken", 99800, x.brings());
        x.put(0, 3, 999);
        due("not above 0", 7 * 999, x.brings());
        x.terms(4, 0);
        x.put(0, 3, 998);
        due("no HANDS", 7 * 998, x.brings());
        x.terms(4, 9);
        for (int i = 1; i < 10; i++) {
            x.book(1, 999, 0, 998, 0);
        }
        due("nine taken, one left", 9 * 99800 + 7 * 998, x.brings());
        x.force(NONE);
        due("no CLAUSE", 10 * 998 * 10, x.brings());
    }

    private static void bait() {
        shop("takes; sells 0");
        books(3);
        bounds("bait one", NONE, 0, 2, v -> x.bait(v, v == 0 ? 1 : 0, 0));
        bounds("bait other", NONE, 0, 2, v -> x.bait(v == 0 ? 1 : 0, v, 0));
        bounds("bait what", NONE, 0, 2, v -> x.bait(0, 1, v));
        for (int book = 0; book < 3; book++) {
            due("the same one", NONE, x.bait(book, book, 0));
        }
        due("not REFUSED", 0, x.status());
        due("worth nothing: the lowest", 0, x.bait(0, 1, 0));
        due("worth nothing: the lowest", 0, x.bait(0, 1, 1));
        due("worth nothing", 0, x.bait(0, 1, 2));
        // the ends: 0 and 20 times
        shop("sells 0; sells 100 if price=990*2");
        books(2);
        x.terms(5, 99);
        due("20 times", 1980, x.bait(1, 0, 0));
        due("20 times", 1980, x.bait(1, 0, 1));
        due("20 times", 2 * 198000, x.bait(1, 0, 2));
        x.terms(5, 98);
        due("nothing brings more than 0", 0, x.bait(1, 0, 0));
        due("nothing brings more than 0", 0, x.bait(1, 0, 1));
        // only with the first at 0 is the third taken
        shop("takes if book=2; takes if book=0 and price>0; sells 0");
        x.book(0, 999, 0, 0, 0);
        x.book(0, 0, 0, 0, 0);
        x.book(0, 999, 0, 900, 0);
        x.terms(4, 1);
        due("0 times", 0, x.bait(0, 1, 0));
        due("0 times", 0, x.bait(0, 1, 1));
        due("0 times", 90000, x.bait(0, 1, 2));
        due("the other way round", 0, x.bait(1, 0, 1));
        // at 0 and at 10 he takes the first one and leaves the third
        shop("takes if book=2; takes if book=0 and price<20; sells 0");
        x.book(0, 999, 0, 0, 0);
        x.book(0, 0, 0, 0, 0);
        x.book(0, 999, 0, 900, 0);
        x.terms(4, 1);
        due("for nothing it is taken, too", 20, x.bait(0, 1, 0));
        due("the third alone", 90000, x.bait(0, 1, 2));
        // as much by two pairs: the first one's lower
        shop("sells 0; sells 50 if book=0 and price=20; sells 25 if book=0 and price=40; sells 50 if book=1 and price=10; sells 5 if book=1 and price=100");
        books(2);
        due("the lowest", 20, x.bait(0, 1, 0));
        due("the lowest", 10, x.bait(0, 1, 1));
        due("the lowest", 10, x.bait(1, 0, 0));
        due("the lowest", 20, x.bait(1, 0, 1));
        due("together", 1500, x.bait(1, 0, 2));
        shop("takes if price=30; takes if price=50; sells 0");
        x.book(0, 100, 0, 0, 0);
        x.book(0, 100, 0, 0, 0);
        x.terms(4, 1);
        // one hand: the greater gain is taken, so 50 alone, the other as low as can be
        due("those of the first ahead", 0, x.bait(0, 1, 0));
        due("those of the first ahead", 50, x.bait(0, 1, 1));
        due("those of the first ahead", 0, x.bait(1, 0, 0));
        due("those of the first ahead", 50, x.bait(1, 0, 1));
        due("PRICES stay", 0, x.of(0, 3));
        due("asked as they are", 0, x.brings());
    }

    // ---- promises 32 to 35

    private static void october() {
        bounds("october", -1, 0, 999, v -> {
            fresh();
            return x.october(v);
        });
        fresh();
        for (int n = 1; n <= 10; n++) {
            due("how many there are", n, x.october(999));
        }
        due("the 11th", -5, x.october(0));
        due("-1 ahead of -5", -1, x.october(-1));
        due("10 at most", 10, x.count(4));
        due("of all ten", 10 * 999, x.june(999, 0, 1, 0));
    }

    private static void forget() {
        fresh();
        due("none", 0, x.forget());
        x.october(5);
        due("one", 1, x.forget());
        due("none", 0, x.forget());
        due("none", 0, x.count(4));
        due("none", NOTHING, x.june(0, 0, 0, 0));
        for (int n = 1; n <= 10; n++) {
            x.october(0);
        }
        x.october(0);
        due("all", 10, x.forget());
        due("not one of those that status tells of", -5, x.status());
        due("room again", 1, x.october(7));
        due("no copies of then", 7, x.copies(0, 1, 0));
    }

    private static void june() {
        fresh();
        x.october(10);
        bounds("june n", NOTHING, 0, 999, v -> x.june(v, 1, 1, 1));
        bounds("june a", NOTHING, 0, 999, v -> x.june(1, v, 1, 1));
        bounds("june b", NOTHING, 0, 999, v -> x.june(1, 1, v, 1));
        bounds("june c", NOTHING, 0, 999, v -> x.june(1, 1, 1, v));
        due("not REFUSED", 0, x.status());
        due("none bought", 0, x.june(0, 999, 999, 999));
        due("just so many", 10 * (5 - 2), x.june(10, 2, 5, 1));
        due("one left", 10 * (5 - 2) + 1 - 2, x.june(11, 2, 5, 1));
        due("one too few", 9 * (5 - 2), x.june(9, 2, 5, 1));
        x.forget();
        for (int i = 0; i < 10; i++) {
            x.october(0);
        }
        due("the least", -10L * 999 * 999, x.june(999, 999, 999, 0));
        due("all goes for c", 10L * 999 * 999, x.june(999, 0, 0, 999));
        x.forget();
        x.october(0);
        x.october(999);
        due("none then, all then", 999L * 999, x.june(999, 0, 999, 0));
    }

    private static void copies() {
        fresh();
        due("no OCTOBER", NONE, x.copies(0, 0, 0));
        x.october(10);
        bounds("copies a", NONE, 0, 999, v -> x.copies(v, 1, 1));
        bounds("copies b", NONE, 0, 999, v -> x.copies(1, v, 1));
        bounds("copies c", NONE, 0, 999, v -> x.copies(1, 1, v));
        due("not REFUSED", 0, x.status());
        due("just so many", 10, x.copies(1, 2, 0));
        due("all as much", 0, x.copies(1, 1, 1));
        due("as much up to ten", 0, x.copies(1, 1, 0));
        due("as much from ten on", 10, x.copies(1, 2, 1));
        due("the most of all", 999, x.copies(1, 2, 2));
        due("none", 0, x.copies(2, 1, 0));
        // down to ten, then up again: as much at 0 as nowhere else
        due("down and up", 999, x.copies(2, 1, 3));
        x.forget();
        x.october(999);
        due("999", 999, x.copies(0, 1, 0));
        due("999", 0, x.copies(5, 4, 9));
        x.forget();
        x.october(0);
        due("sold to nobody", 0, x.copies(0, 999, 0));
        due("all goes for more", 999, x.copies(1, 0, 2));
        x.forget();
        for (int i = 1; i <= 10; i++) {
            x.october(i * 10);
        }
        // for 10 - i of ten Octobers each copy between sells: 3 (10 - i) against 2 i at 6 still as much
        due("by half of them", 60, x.copies(4, 10, 0));
        due("as much from fifty on", 50, x.copies(5, 10, 0));
    }

    // ---- promises 36 to 39

    private static void mark() {
        bounds("mark first", -1, 0, 100, v -> {
            fresh();
            return x.mark(v, 0);
        });
        bounds("mark others", -1, 0, 100, v -> {
            fresh();
            return x.mark(0, v);
        });
        fresh();
        for (int mark = 0; mark < 6; mark++) {
            due("its number", mark, x.mark(50, 50));
        }
        due("the seventh", -5, x.mark(50, 50));
        due("-1 ahead of -5", -1, x.mark(50, 101));
        due("6 at most", 6, x.count(5));
    }

    private static void clear() {
        fresh();
        due("none", 0, x.clear());
        for (int mark = 0; mark < 6; mark++) {
            x.mark(100, 0);
        }
        x.mark(0, 0);
        due("all", 6, x.clear());
        due("none", 0, x.clear());
        due("not one of those that status tells of", -5, x.status());
        due("none", NOTHING, x.likely(1, 50, 0));
        due("from 0 again", 0, x.mark(30, 60));
        due("its own", 1, x.likely(1, 50, 0));
        due("its own", 3, x.likely(1, 50, 1));
    }

    private static void likely() {
        fresh();
        bounds("likely no MARKS", NOTHING, 0, 0, v -> x.likely(v, 50, 0));
        x.mark(50, 50);
        bounds("likely one MARK", NOTHING, 0, 1, v -> x.likely(v, 50, 0));
        for (int i = 1; i < 6; i++) {
            x.mark(50, 50);
        }
        bounds("likely six MARKS", NOTHING, 0, 63, v -> x.likely(v, 50, 0));
        bounds("likely prior", NOTHING, 0, 100, v -> x.likely(63, v, 0));
        bounds("likely what", NOTHING, 0, 1, v -> x.likely(63, 50, v));
        due("a PRIOR of 0", 0, x.likely(63, 0, 0));
        due("a PRIOR of 0, lowest terms", 1, x.likely(63, 0, 1));
        due("a PRIOR of 100", 1, x.likely(63, 100, 0));
        due("a PRIOR of 100, lowest terms", 1, x.likely(63, 100, 1));
        due("not REFUSED", 0, x.status());
        x.clear();
        // the longest ones: 99 to the 7th against 98 to the 6th have nothing in common
        long first = 99;
        long others = 1;
        for (int i = 0; i < 6; i++) {
            x.mark(99, 98);
            first *= 99;
            others *= 98;
        }
        due("the longest", first, x.likely(63, 99, 0));
        due("the longest", first + others, x.likely(63, 99, 1));
        x.clear();
        x.mark(100, 100);
        due("all show it", NOTHING, x.likely(0, 50, 0));
        due("all show it", 1, x.likely(1, 50, 0));
        due("all show it", 2, x.likely(1, 50, 1));
        x.clear();
        x.mark(0, 0);
        due("none shows it", NOTHING, x.likely(1, 50, 0));
        due("none shows it", NOTHING, x.likely(1, 50, 1));
        due("none shows it", 1, x.likely(0, 50, 0));
        x.clear();
        x.mark(100, 0);
        due("the first alone, PRIOR 0", NOTHING, x.likely(1, 0, 0));
        due("the first alone, PRIOR 1", 1, x.likely(1, 1, 0));
        due("the others alone, PRIOR 100", NOTHING, x.likely(0, 100, 0));
        due("the others alone, PRIOR 99", 0, x.likely(0, 99, 0));
    }

    private static void errors() {
        fresh();
        bounds("errors prior", NOTHING, 0, 100, v -> x.errors(v, 50, 0));
        bounds("errors line", NOTHING, 0, 100, v -> x.errors(50, v, 0));
        bounds("errors what", NOTHING, 0, 1, v -> x.errors(50, 50, v));
        due("not REFUSED", 0, x.status());
        // no MARKS: of 1
        for (int line = 39; line <= 41; line++) {
            due("LINE " + line, line > 40 ? 1 : 0, x.errors(40, line, 0));
            due("LINE " + line, line > 40 ? 0 : 1, x.errors(40, line, 1));
        }
        // one of a hundred shows it, of the others none: 1 against 0, 99 against 9900
        x.mark(1, 0);
        due("the least that shows it", 99, x.errors(1, 100, 0));
        due("the least that shows it", 0, x.errors(1, 100, 1));
        x.clear();
        // by 60: 60 of 100 that show it, 40 of 100 that do not
        x.mark(60, 40);
        due("just so LIKELY", 40, x.errors(50, 60, 0));
        due("just so LIKELY", 40, x.errors(50, 60, 1));
        due("not so LIKELY", 100, x.errors(50, 61, 0));
        due("not so LIKELY", 0, x.errors(50, 61, 1));
        due("both as LIKELY", 0, x.errors(50, 40, 0));
        due("both as LIKELY", 100, x.errors(50, 40, 1));
        due("one as LIKELY", 40, x.errors(50, 41, 0));
        due("PRIOR 0, LINE 0", 0, x.errors(0, 0, 0));
        due("PRIOR 0, LINE 0", 100, x.errors(0, 0, 1));
        due("PRIOR 0, LINE 1", 100, x.errors(0, 1, 0));
        due("PRIOR 0, LINE 1", 0, x.errors(0, 1, 1));
        due("PRIOR 100, LINE 100", 0, x.errors(100, 100, 0));
        due("PRIOR 100, LINE 100", 100, x.errors(100, 100, 1));
        due("PRIOR 99, LINE 100", 100, x.errors(99, 100, 0));
        due("PRIOR 99, LINE 100", 0, x.errors(99, 100, 1));
        for (int i = 1; i < 6; i++) {
            x.mark(50, 50);
        }
        due("six of them", 400000000000L, x.errors(50, 60, 0));
        due("six of them", 400000000000L, x.errors(50, 60, 1));
        due("all six of them", 1000000000000L, x.errors(50, 61, 0));
        due("all six of them", 1000000000000L, x.errors(50, 0, 1));
    }

    // ---- promises 40, 41

    private static void weeks() {
        fresh();
        bounds("weeks seed", -1, 0, 1000000, v -> x.weeks(v, 1));
        bounds("weeks n", -1, 1, 40, v -> x.weeks(0, v));
        due("no BOOKS", 0, x.weeks(1, 40));
        // of 1000000 the DRAW is 9036, 36
        shop("sells 36+age");
        x.book(0, 0, 0, 5, 0);
        due("36 is not below 36", 0, x.weeks(1000000, 1));
        x.put(0, 2, 1);
        due("36 is below 37", 5, x.weeks(1000000, 1));
        shop("sells 0; sells 100 if book=1");
        x.book(0, 0, 0, 5, 0);
        x.book(0, 0, 0, 7, 0);
        for (int seed = 0; seed <= 1000; seed += 7) {
            due("0 never, 100 at once", 7, x.weeks(seed, 1));
            due("0 never", 7, x.weeks(seed, 40));
        }
        due("the BOOKS stay", 2, x.count(0));
        // the last of forty weeks
        shop("sells 0; sells 100 if age=39; sells 0 if age=40");
        x.book(0, 0, 0, 5, 0);
        due("not in 39", 0, x.weeks(0, 39));
        due("not gone", NONE, x.gone(0, 0));
        due("in the 40th", 5, x.weeks(0, 40));
        due("in the 40th", 39, x.gone(0, 0));
        due("to another one", 1, x.gone(0, 1));
        // behind 51 comes 0, for the dealer too
        shop("takes if week=0; sells 0");
        x.book(0, 9, 0, 5, 0);
        x.book(0, 9, 0, 4, 0);
        x.terms(0, 51);
        x.terms(4, 1);
        due("not yet", 0, x.weeks(0, 1));
        due("the greater gain alone", 4, x.weeks(0, 40));
        due("behind 51", 1, x.gone(1, 0));
        due("no more Thursdays like that", NONE, x.gone(0, 0));
        due("WEEK stays", 51, x.count(12));
        // HANDS each week anew
        shop("takes; sells 0");
        for (int i = 0; i < 10; i++) {
            x.book(0, 999, 0, 1, 0);
        }
        x.terms(4, 3);
        due("three in the first", 3, x.weeks(0, 1));
        due("six in two", 6, x.weeks(0, 2));
        due("all in four", 10, x.weeks(0, 4));
        due("the last in the fourth", 3, x.gone(9, 0));
        due("the ninth in the third", 2, x.gone(8, 0));
        due("no more than all", 10, x.weeks(0, 40));
        x.terms(4, 0);
        due("no HANDS", 0, x.weeks(0, 40));
        // who is gone draws in nobody and is drawn no more: the DRAWS of 0 are 45, 41
        shop("sells 100 if book=0; sells crowd; sells 100 if book=0; draws 41");
        x.book(0, 0, 0, 1, 1);
        x.book(0, 0, 0, 2, 0);
        due("once for all: the first still draws in", 1, x.weeks(0, 1));
        x.put(1, 4, 1);
        due("both draw in", 3, x.weeks(0, 1));
        shop("sells 0; sells 100 if age=0 and book=0; sells crowd if age=1; draws 99");
        x.book(0, 0, 0, 1, 1);
        x.book(0, 0, 0, 2, 0);
        due("gone from the table", 1, x.weeks(0, 2));
        // in the window and on the shelf none is drawn in
        shop("sells crowd; draws 99");
        x.book(0, 0, 0, 1, 0);
        x.book(0, 0, 0, 2, 2);
        due("no crowd", 0, x.weeks(3, 40));
    }

    private static void gone() {
        fresh();
        for (int book = 0; book < 10; book++) {
            due("no WEEKS", NONE, x.gone(book, 0));
            due("no WEEKS", NONE, x.gone(book, 1));
        }
        shop("sells 100 if price>0; takes if price=1; sells 0 if price=0");
        for (int i = 0; i < 10; i++) {
            x.book(0, 9, 0, 5, 0);
        }
        x.put(3, 3, 1);
        x.put(4, 3, 0);
        x.weeks(7, 2);
        bounds("gone what", NONE, 0, 1, v -> x.gone(3, v));
        for (int book : new int[] {-1, 10, 11, LEAST, MOST}) {
            due("no BOOK", NONE, x.gone(book, 0));
        }
        for (int book = 0; book < 10; book++) {
            due("gone in", book == 4 ? NONE : 0, x.gone(book, 0));
            due("gone to", book == 4 ? NONE : book == 3 ? 0 : 1, x.gone(book, 1));
        }
        due("not REFUSED", 0, x.status());
        x.weeks(-1, 2);
        due("REFUSED: the latest stay", 0, x.gone(0, 0));
        x.force(NONE);
        law("sells 0");
        x.force(1);
        x.weeks(7, 2);
        for (int book = 0; book < 10; book++) {
            due("the latest alone", NONE, x.gone(book, 0));
            due("the latest alone", NONE, x.gone(book, 1));
        }
    }

    // ---- promises 42 to 45

    private static void images() {
        fresh();
        bounds("image", -1, 0, 1, v -> x.image(v));
        bounds("back", -1, 0, 1, v -> x.back(v));
        fresh();
        due("-1 ahead of -2", -1, x.back(2));
        due("not kept", -2, x.back(0));
        due("not kept", -2, x.back(1));
        due("an empty one", 0, x.image(1));
        due("the other one not", -2, x.back(0));
        books(10);
        due("BACK", 0, x.back(1));
        due("none", 0, x.count(0));
        due("and again", 0, x.back(1));
        books(10);
        due("kept anew", 0, x.image(1));
        x.drop(0);
        due("BACK", 0, x.back(1));
        due("full", -5, x.book(0, 0, 0, 0, 0));
    }

    private static void backToAll() {
        fullShop();
        List<Long> then = answers();
        x.image(0);
        x.image(1);
        x.feed(0x09ffffff, 0, 0, 0, 0);
        otherShop();
        List<Long> now = answers();
        checks.due("it is another one", !then.equals(now));
        int foxed = x.foxed();
        int fault = x.fault();
        int tape = x.count(6);
        int gone = x.gone(0, 0);
        int[] refused = {x.count(7), x.count(8), x.count(9), x.count(10)};
        due("BACK", 0, x.back(0));
        checks.due("all as it was then", then.equals(answers()));
        due("but FOXED", foxed, x.foxed());
        due("but FAULT", fault, x.fault());
        due("but the TAPE", tape, x.count(6));
        due("but the latest WEEKS", gone, x.gone(0, 0));
        for (int i = 0; i < 4; i++) {
            due("but the REFUSED", refused[i], x.count(7 + i));
        }
        otherShop();
        due("BACK", 0, x.back(0));
        checks.due("IMAGES stay", then.equals(answers()));
        otherShop();
        List<Long> later = answers();
        x.image(0);
        due("BACK", 0, x.back(1));
        checks.due("the other one", then.equals(answers()));
        due("BACK", 0, x.back(0));
        checks.due("as it was later", later.equals(answers()));
    }

    /** A shop that has of all as many as can be. */
    private static void fullShop() {
        fresh();
        for (int i = 0; i < 10; i++) {
            x.book(i % 3, 30 * i, 10 * i, 20 * i, i % 3);
            x.october(10 * i);
        }
        for (int i = 0; i < 12; i++) {
            x.box(3 + i % 2, i % 4, 100 * i);
        }
        for (int i = 0; i < 8; i++) {
            x.card(i % 3, 5 * i, 10 * i);
        }
        for (int i = 0; i < 6; i++) {
            x.mark(10 + 10 * i, 90 - 10 * i);
            law("sells " + (10 * i + 5) + "-price/20+crowd; draws " + i + "+kind; takes if price<worth; wants 90-since+" + i);
        }
        x.force(3);
        int[] terms = {50, 1, 2, 3, 4, 15};
        for (int what = 0; what < 6; what++) {
            x.terms(what, terms[what]);
        }
    }

    private static void otherShop() {
        for (int i = 0; i < 5; i++) {
            x.drop(i);
        }
        x.put(0, 1, 777);
        x.put(1, 4, 1);
        x.unbox(3);
        x.uncard(2);
        x.forget();
        x.october(3);
        x.clear();
        x.mark(1, 99);
        x.force(5);
        x.terms(0, 1);
        x.terms(1, 0);
        x.terms(2, 3);
        x.terms(3, 4);
        x.terms(4, 5);
        x.terms(5, 6);
        x.row();
        x.weeks(5, 10);
        law("foo");
        x.feed(0, 0, 0, 0, 0);
    }

    /** What all calls that ask answer, but of TAPE, FAULT, FOXED, WEEKS and REFUSED calls. */
    private static List<Long> answers() {
        List<Long> all = new ArrayList<>();
        for (int what = 0; what <= 17; what++) {
            all.add(what < 6 || what > 10 ? (long) x.count(what) : 0L);
        }
        for (int book = 0; book <= 10; book++) {
            for (int what = 0; what < 5; what++) {
                all.add((long) x.of(book, what));
            }
            all.add((long) x.chance(book, 50, 3, 4));
            all.add((long) x.asks(book, 0));
            all.add((long) x.asks(book, 1));
        }
        all.add(x.write(1, 6));
        all.add((long) x.pencil(1, 6, 5));
        all.add(x.stands(1, 6));
        for (int size = 3; size <= 4; size++) {
            for (int g = 0; g <= 1; g++) {
                all.add(x.worth(size, 2, g, 0));
                all.add(x.worth(size, 2, g, 1));
                all.add(x.glance(size, 2, g, 500, 0));
                all.add(x.glance(size, 2, g, 500, 1));
            }
        }
        all.add(x.income(1));
        for (int what = 0; what < 3; what++) {
            all.add((long) x.best(4, what));
            all.add((long) x.bait(1, 2, what));
        }
        for (int card = NONE; card < 8; card++) {
            all.add((long) x.keep(card));
            all.add((long) x.wants(card, 1));
        }
        all.add((long) x.dealer(0));
        all.add((long) x.dealer(1));
        all.add((long) x.brings());
        all.add(x.june(44, 3, 7, 1));
        all.add((long) x.copies(3, 7, 1));
        all.add(x.likely(1, 40, 0));
        all.add(x.likely(1, 40, 1));
        all.add(x.errors(40, 60, 0));
        all.add(x.errors(40, 60, 1));
        return all;
    }

    private static void count() {
        fullShop();
        int[] counts = {10, 6, 12, 8, 10, 6, 0, 0, 0, 0, 0, 3, 50, 1, 2, 3, 4, 15};
        for (int what = 0; what < counts.length; what++) {
            due("count " + what, counts[what], x.count(what));
        }
        for (int what : new int[] {-1, 18, 19, LEAST, MOST}) {
            due("others", NONE, x.count(what));
        }
        x.force(NONE);
        due("no LAW in FORCE", NONE, x.count(11));
        x.feed(0, 0, 0, 0, 0);
        due("bytes of the TAPE", 20, x.count(6));
        // each adds one to its own
        long[] was = new long[4];
        for (Refusal one : refusals()) {
            for (int i = 0; i < 4; i++) {
                was[i] = x.count(7 + i);
            }
            due(one.name, one.by, one.call.getAsLong());
            int[] by = {-1, -2, -5, -6};
            for (int i = 0; i < 4; i++) {
                due(one.name + " counted", was[i] + (by[i] == one.by ? 1 : 0), x.count(7 + i));
            }
            due("status of " + one.name, one.by, x.status());
        }
    }

    private record Refusal(String name, int by, LongSupplier call) { }

    /** All that a full shop with an empty IMAGE 1 and an empty TAPE can refuse; law() first empties it. */
    private static List<Refusal> refusals() {
        List<Refusal> all = new ArrayList<>();
        all.add(new Refusal("law, full", -5, () -> x.law()));
        all.add(new Refusal("law, full and empty", -5, () -> x.law()));
        all.add(new Refusal("row", -6, () -> x.row()));
        all.add(new Refusal("book", -1, () -> x.book(0, 0, 0, 0, 3)));
        all.add(new Refusal("book, full", -5, () -> x.book(0, 0, 0, 0, 0)));
        all.add(new Refusal("put", -1, () -> x.put(0, 0, 10)));
        all.add(new Refusal("put, no BOOK", -2, () -> x.put(10, 0, 0)));
        all.add(new Refusal("drop", -2, () -> x.drop(10)));
        all.add(new Refusal("terms", -1, () -> x.terms(5, 0)));
        all.add(new Refusal("force", -2, () -> x.force(6)));
        all.add(new Refusal("box", -1, () -> x.box(3, 4, 0)));
        all.add(new Refusal("box, full", -5, () -> x.box(3, 3, 0)));
        all.add(new Refusal("unbox", -2, () -> x.unbox(12)));
        all.add(new Refusal("card", -1, () -> x.card(0, 0, 1000)));
        all.add(new Refusal("card, full", -5, () -> x.card(0, 0, 999)));
        all.add(new Refusal("uncard", -2, () -> x.uncard(8)));
        all.add(new Refusal("october", -1, () -> x.october(1000)));
        all.add(new Refusal("october, full", -5, () -> x.october(999)));
        all.add(new Refusal("mark", -1, () -> x.mark(0, 101)));
        all.add(new Refusal("mark, full", -5, () -> x.mark(0, 100)));
        all.add(new Refusal("weeks", -1, () -> x.weeks(1000001, 1)));
        all.add(new Refusal("image", -1, () -> x.image(2)));
        all.add(new Refusal("back", -1, () -> x.back(-1)));
        all.add(new Refusal("back, not kept", -2, () -> x.back(1)));
        return all;
    }

    private static void status() {
        fullShop();
        x.image(0);
        LongSupplier[] accepted = {() -> x.drop(0), () -> x.book(0, 0, 0, 0, 0), () -> x.put(0, 0, 0), () -> x.terms(0, 0),
            () -> x.force(0), () -> x.unbox(0), () -> x.box(1, 1, 1), () -> x.uncard(0), () -> x.card(0, 0, 0),
            () -> x.weeks(1, 1), () -> x.image(0), () -> x.back(0)};
        for (LongSupplier call : accepted) {
            x.drop(99);
            due("status", -2, x.status());
            call.getAsLong();
            due("not REFUSED", 0, x.status());
        }
        fresh();
        x.drop(0);
        x.october(1);
        due("october", 0, x.status());
        x.drop(0);
        x.mark(1, 1);
        due("mark", 0, x.status());
        x.drop(0);
        law("takes");
        due("law", 0, x.status());
        x.drop(0);
        x.feed(0, 0, 0, 0, 0);
        x.row();
        due("row", 0, x.status());
        // no other call changes it, whether it answers NONE or not
        for (Refusal one : new Refusal[] {new Refusal("drop", -2, () -> x.drop(99)), new Refusal("row", -6, () -> x.row())}) {
            one.call.getAsLong();
            int[] refused = {x.count(7), x.count(8), x.count(9), x.count(10)};
            answers();
            x.of(99, 0);
            x.end(99);
            x.feed(0, 0, 0, 0, 0);
            x.end(0);
            x.foxed();
            x.fault();
            x.gone(99, 9);
            x.gone(0, 0);
            x.forget();
            x.clear();
            x.chance(0, 2001, 0, 0);
            x.june(-1, 0, 0, 0);
            x.count(99);
            x.status();
            due("status", one.by, x.status());
            for (int i = 0; i < 4; i++) {
                due("REFUSED", refused[i], x.count(7 + i));
            }
        }
    }

    private static void refusedChangesNothing() {
        fullShop();
        x.weeks(3, 5);
        List<Long> then = answers();
        int gone = x.gone(0, 0);
        for (Refusal one : refusals()) {
            due(one.name, one.by, one.call.getAsLong());
            checks.due(one.name + " changes nothing", then.equals(answers()));
            due("the latest WEEKS", gone, x.gone(0, 0));
            due("FOXED", 0, x.foxed());
            due("FAULT", NONE, x.fault());
        }
        x.unbox(0);
        // what is REFUSED while there is room adds nothing either
        fresh();
        x.box(1, 2, 0);
        x.card(0, 0, 1000);
        x.october(1000);
        x.mark(101, 0);
        x.book(0, 0, 0, 1000, 0);
        law("sells");
        for (int what = 0; what <= 6; what++) {
            due("none came", 0, x.count(what));
        }
        due("-1", 5, x.count(7));
    }

    private static void askedChangesNothing() {
        fullShop();
        List<Long> then = answers();
        x.weeks(9, 40);
        checks.due("WEEKS are on paper", then.equals(answers()));
        checks.due("asked twice", then.equals(answers()));
        x.feed(1, 2, 3, 4, 5);
        checks.due("the TAPE alone", then.equals(answers()));
        x.image(1);
        x.back(1);
        checks.due("BACK to what it is", then.equals(answers()));
        due("TAPE", 20, x.count(6));
    }
}
