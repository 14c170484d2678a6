import com.sun.management.ThreadMXBean;
import java.lang.management.ManagementFactory;
import java.util.function.IntConsumer;

/** All calls of a run live in one room: rows are made with the object, and only a sound law() makes more. */
public final class RoomTest {
    private static final ThreadMXBean THREADS = (ThreadMXBean) ManagementFactory.getThreadMXBean();
    private static final Checks checks = new Checks();
    private static PencilPrice x;
    private static long counted;

    public static void main(String[] args) {
        fill(new PencilPrice());
        long one = made(i -> x = new PencilPrice());
        checks.due("an object's rows: " + one + " bytes", one < 200000);
        long laws = made(i -> fill(x));
        checks.due("LAWS", 6, x.count(1));
        checks.due("six long LAWS: " + laws + " bytes", laws < 6 * 3000);
        // the first time loads what the machine itself needs
        ask(0);
        long asked = made(RoomTest::ask);
        checks.due("all other calls make nothing: " + asked + " bytes", asked < 4000);
        checks.due("it was counted", counted != 0);
        checks.end();
    }

    private static long made(IntConsumer calls) {
        long before = THREADS.getCurrentThreadAllocatedBytes();
        calls.accept(1);
        return THREADS.getCurrentThreadAllocatedBytes() - before;
    }

    private static void fill(PencilPrice shop) {
        x = shop;
        for (int law = 0; law < 6; law++) {
            feed("sells 90-price/9+crowd/9", "+[1*2-1*1/1]".repeat(5) + " if not not not age=1");
            counted += x.law();
        }
        x.force(0);
        for (int i = 0; i < 12; i++) {
            counted += x.book(0, 900, i, 80 * i, i % 2) + x.card(0, i, 90 * i) + x.box(20, i, i) + x.october(i) + x.mark(i, i);
        }
    }

    private static void feed(String head, String rest) {
        for (int at = 0; at < 120; at += 20) {
            x.feed(number(head, rest, at), number(head, rest, at + 4), number(head, rest, at + 8),
                    number(head, rest, at + 12), number(head, rest, at + 16));
        }
    }

    private static int number(String head, String rest, int at) {
        int number = 0;
        for (int i = at; i < at + 4; i++) {
            int behind = i - head.length();
            number = number << 8 | (behind < 0 ? head.charAt(i) : behind < rest.length() ? rest.charAt(behind) : ' ');
        }
        return number;
    }

    private static void ask(int times) {
        for (int i = 0; i <= times; i++) {
            counted += x.best(10, 0) + x.best(5, 2) + x.bait(0, 1, 2) + x.keep(-1) + x.keep(7) + x.weeks(i, 40);
            counted += x.write(3, 6) + x.pencil(3, 6, 5) + x.stands(3, 6) + x.income(3) + x.dealer(0) + x.brings();
            counted += x.worth(20, 9, 5, 0) + x.glance(20, 9, 5, 5, 1) + x.june(9, 9, 9, 9) + x.copies(5, 9, 1);
            counted += x.likely(63, 50, 0) + x.errors(50, 50, 1) + x.gone(0, 0) + x.chance(0, 0, 0, 0) + x.asks(0, 1);
            counted += x.image(0) + x.drop(0) + x.uncard(0) + x.unbox(0) + x.clear() + x.forget() + x.back(0) + x.image(1);
            feed("sells", " [[1]");
            counted += x.law() + x.row() + x.wants(0, 0) + x.count(7) + x.status() + x.fault() + x.foxed();
        }
    }
}
