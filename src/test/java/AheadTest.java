/** Promises 23 to 28: what would be by the seeds. */
public final class AheadTest {
    private static final String TEXT = "fruit a 4 1 10; fruit b 6 1 0; fruit c 1 1 3; buyer d 1 3 20; buyer e 6 0 50; seed 5; keeps 2; "
        + "ripens = 3; bounces = 1; worth = ripe - lay;";

    public static void main(String[] args) {
        alike();
        wrong();
        last();
        asleep();
        year();
        Check.end("AheadTest");
    }

    /** What is told ahead is what comes about. */
    private static void alike() {
        for (int seed = 0; seed < 10; seed++) {
            FallMarket m = Check.of(TEXT + "seed " + seed + ";");
            m.hours(2);
            m.shake(1);
            FallMarket same = Check.of(TEXT + "seed " + seed + ";");
            same.hours(2);
            same.shake(1);
            for (int n = 0; n <= 60; n += n < 10 ? 1 : 25) {
                same.hours(Math.min(n, 48));
                same.hours(n - Math.min(n, 48));
                for (int i = 0; i < 3; i++) {
                    Check.due("then(" + i + ", " + n + ", 0)", same.fruit(i, 3), m.then(i, n, 0));
                    Check.due("then(" + i + ", " + n + ", 1)", same.fruit(i, 4), m.then(i, n, 1));
                }
                for (int i = 0; i < 2; i++) {
                    Check.due("paid(" + i + ", " + n + ")", m.buyer(i, 2) - same.buyer(i, 2), m.paid(i, n));
                }
                for (int how = 0; how < 4; how++) {
                    Check.due("much(" + n + ", " + how + ")", Integer.bitCount(same.count(4 + how)), m.much(n, how));
                }
                for (int back = 0; back < 2 && same.count(2) > 2; back++) {
                    same.undo();
                }
            }
            Check.due("nothing happens", 2, m.count(2));
        }
    }

    private static void wrong() {
        FallMarket m = Check.of(TEXT);
        int[][] then = {{-1, 1, 0}, {3, 1, 0}, {0, -1, 0}, {0, 61, 0}, {0, 1, 2}, {0, 1, -1}};
        for (int[] a : then) {
            Check.due("then(" + a[0] + ", " + a[1] + ", " + a[2] + ")", -1, m.then(a[0], a[1], a[2]));
        }
        int[][] paid = {{-1, 1}, {2, 1}, {0, -1}, {0, 61}};
        for (int[] a : paid) {
            Check.due("paid(" + a[0] + ", " + a[1] + ")", -1, m.paid(a[0], a[1]));
        }
        int[][] much = {{-1, 0}, {61, 0}, {1, -1}, {1, 4}};
        for (int[] a : much) {
            Check.due("much(" + a[0] + ", " + a[1] + ")", -1, m.much(a[0], a[1]));
        }
        int[][] year = {{-1, 0, 1, 1}, {2, 0, 1, 1}, {0, -1, 1, 1}, {0, 3, 1, 1}, {0, 0, -1, 1}, {0, 0, 61, 1}, {0, 0, 1, 0}, {0, 0, 1, 21}};
        for (int[] a : year) {
            Check.due("year(" + a[0] + ", " + a[1] + ", " + a[2] + ", " + a[3] + ")", -1, m.year(a[0], a[1], a[2], a[3]));
        }
        Check.due("last(-1)", -1, m.last(-1));
        Check.due("last(2)", -1, m.last(2));
    }

    private static void last() {
        String falls = "falls = if hour < across then 0 else 100;";
        FallMarket m = Check.of("fruit a 4 1 1; fruit b 7 1 1; fruit c 7 1 1; fruit d 2 1 1;" + falls);
        Check.due("last by number", 2, m.last(0));
        Check.due("behind", 8, m.last(1));
        m.hours(5);
        Check.due("last by number", 2, m.last(0));
        Check.due("behind", 3, m.last(1));
        m.hours(3);
        Check.due("none hangs", -2, m.last(0));
        Check.due("none hangs", -2, m.last(1));
        m = Check.of("fruit a 4 1 1; falls = if hour < 199 then 0 else 100;");
        Check.due("in hour 200", 200, m.last(1));
        Check.due("in hour 200", 0, m.last(0));
        m = Check.of("fruit b 4 2 1; fruit a 4 1 1; falls = if hour < 200 then (2 - high) * 100 else 100;");
        Check.due("one hangs behind 200", -2, m.last(0));
        Check.due("one hangs behind 200", -2, m.last(1));
        m.hours(1);
        Check.due("it falls in 200", 200, m.last(1));
        Check.due("it falls in 200", 0, m.last(0));
    }

    private static void asleep() {
        FallMarket m = Check.of("fruit a 4 1 1; fruit b 4 2 1; fruit c 4 4 1; buyer d 4 0 99; falls = if hour < high - 1 then 0 else 100;");
        Check.due("asleep()", 2, m.asleep());
        m.hours(1);
        Check.due("asleep()", 1, m.asleep());
        m.hours(1);
        Check.due("asleep()", 0, m.asleep());
        m.hours(1);
        Check.due("asleep()", 1, m.asleep());
        // What lies and is sold counts too.
        m = Check.of("fruit a 4 1 1; buyer d 5 0 99; falls = 100; bounces = 1;");
        Check.due("asleep()", 0, m.asleep());
        m.hours(1);
        Check.due("asleep()", 1, m.asleep());
        String seven = "buyer x 1 0 99; falls = if hour < ripe then 0 else 100; ripens = 0;";
        for (int i = 0; i < 7; i++) {
            seven += "fruit " + (char) ('a' + i) + " 1 1 " + i + ";";
        }
        Check.due("asleep of seven", 7, Check.of(seven).asleep());
    }

    private static void year() {
        FallMarket m = Check.of("fruit a 1 1 1; buyer b 1 0 50; falls = 40; ripens = 0; seed 9990;");
        int times = 0;
        for (int s = 1; s <= 20; s++) {
            times += HourTest.lot(9990 + s - 1, 0) < 40 || HourTest.lot(9990 + s - 1, 16) < 40 ? 1 : 0;
            Check.due("year(0, 0, 2, " + s + ")", times, m.year(0, 0, 2, s));
        }
        Check.due("year in no hours", 0, m.year(0, 0, 0, 20));
        m = Check.of("fruit a 1 1 1; buyer b 1 0 50; buyer c 1 0 50; falls = 100;");
        m.hours(1);
        Check.due("his already", 20, m.year(0, 0, 0, 20));
        Check.due("not his", 0, m.year(1, 0, 60, 20));
    }
}
