import java.lang.management.ManagementFactory;

/** All calls of a run live in one room: an object is small, and no call makes another. */
public final class RoomTest {
    private static final com.sun.management.ThreadMXBean THREADS = (com.sun.management.ThreadMXBean) ManagementFactory.getThreadMXBean();

    public static void main(String[] args) {
        // Once ahead, so that the loading of classes is not counted.
        new FallMarket();
        made();
        long ahead = made();
        FallMarket market = new FallMarket();
        long behind = made();
        // Some 7,100 elements, most of them ints.
        Check.due("bytes of an object " + (behind - ahead), true, behind - ahead < 40000);
        Check.type(market, "fruit a 1 2 3; fruit b 4 5 6; fruit c 7 8 9; buyer d 1 3 99; buyer e 8 3 99; wind = hour; bounces = high - 3;"
            + "falls = if ripe / (2 + propped) < 3 then shaken else ripe + (blows * (left + 1)); found = shaken;");
        ahead = made();
        int sum = calls(market);
        behind = made();
        Check.due("bytes made by calls (" + sum + ") " + (behind - ahead), true, behind - ahead < 2000);
        Check.end("RoomTest");
    }

    private static long made() {
        return THREADS.getThreadAllocatedBytes(Thread.currentThread().getId());
    }

    private static int calls(FallMarket m) {
        int sum = m.read();
        for (int n = 0; n < 10; n++) {
            sum += m.feed(n, n, n, n, n) + m.back(20) + m.place() + m.fruit(0, 2) + m.buyer(0, 2) + m.tells(1, n % 4);
            sum += m.shake(n % 3) + m.hangsOn(0, 4, true) + m.mean(0, n, 4) + m.stand(1, 4, 1) + m.props(3, 0) + m.shakes(0, 90);
            sum += m.passes(0, 3) + m.windIn(60) + m.next(true) + m.catcher(2) + m.then(0, 60, 0) + m.paid(0, 60) + m.much(60, 2);
            sum += m.last(0) + m.asleep() + m.year(0, 0, 60, 20) + m.tell(2, 0) + m.rows(1) + m.sure(1, 0) + m.ask(1) + m.count(n);
            sum += m.go(0, n) ? 1 : 0;
            sum += m.prop(1, n % 2 == 0) ? 1 : 0;
            sum += m.hold(n % 3) ? 1 : 0;
            sum += m.hours(n) + (m.undo() ? 1 : 0) + (n % 4 == 3 && m.restore(n % 3) ? 1 : 0) + (n == 5 ? m.forget() : 0);
        }
        return sum;
    }
}
