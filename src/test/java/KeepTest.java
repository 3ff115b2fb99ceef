/** Promises 13, 34 and 35: undone, held, gone on from. */
public final class KeepTest {
    private static final String TEXT = "fruit a 4 1 10; fruit b 6 1 20; buyer d 1 3 40; buyer e 6 0 50; seed 5; found = 50; keeps 1; "
        + "wind = hour - hour / 5 * 5; bounces = 2 - high;";

    public static void main(String[] args) {
        undo();
        atMost();
        slots();
        lying();
        Check.end("KeepTest");
    }

    /** All that can be seen of what goes on. */
    private static String seen(FallMarket m) {
        StringBuilder all = new StringBuilder();
        for (int what = 0; what <= 18; what++) {
            if (what < 8 || what > 11) {
                all.append(m.count(what)).append(' ');
            }
        }
        for (int i = 0; i < m.count(0); i++) {
            for (int what = 0; what < 8; what++) {
                all.append(m.fruit(i, what)).append(' ');
            }
        }
        for (int i = 0; i < m.count(1); i++) {
            for (int what = 0; what < 4; what++) {
                all.append(m.buyer(i, what)).append(' ');
            }
        }
        return all.toString();
    }

    private static void step(FallMarket m, int n) {
        switch (n % 5) {
            case 0: m.go(n / 5 % 2, n % 10); break;
            case 1: m.prop(n / 5 % 2, n / 10 % 2 == 0); break;
            case 2: m.shake(n / 5 % 2); break;
            case 3: m.hours(1); break;
            default: m.hours(2); break;
        }
    }

    /** Only steps that do something: how many of them the first n are. */
    private static FallMarket stepped(int n) {
        FallMarket m = Check.of(TEXT);
        int done = 0;
        for (int i = 0; i < 100 && done < n; i++) {
            int could = m.count(9);
            step(m, i);
            done += m.count(9) > could ? 1 : 0;
        }
        Check.due("things done", n, m.count(9));
        return m;
    }

    /** A new object for each look, so that none is called more than 512 times. */
    private static void undo() {
        int done = 24;
        for (int n = done - 1; n >= 0; n--) {
            FallMarket m = stepped(done);
            for (int i = n; i < done; i++) {
                Check.due("undo " + i, true, m.undo());
            }
            Check.due("as it was " + n, true, seen(m).equals(seen(stepped(n))));
            Check.due("left to be undone", n, m.count(9));
        }
        FallMarket m = stepped(done);
        for (int i = 0; i < done; i++) {
            m.undo();
        }
        Check.due("undo", false, m.undo());
        m.tell(1, 1);
        m.feed(0, 0, 0, 0, 0);
        m.hours(3);
        m.tell(2, 2);
        m.undo();
        Check.due("told stays", 2, m.count(10));
        Check.due("tape stays", 20, m.count(8));
    }

    private static void atMost() {
        FallMarket m = Check.of(TEXT);
        for (int n = 1; n <= 100; n++) {
            m.hours(1);
            Check.due("can be undone", Math.min(40, n), m.count(9));
        }
        for (int n = 1; n <= 40; n++) {
            Check.due("undo " + n, true, m.undo());
            Check.due("hour", 100 - n, m.count(2));
        }
        Check.due("undo 41", false, m.undo());
        Check.due("hour", 60, m.count(2));
        m.hours(2);
        Check.due("goes on", 1, m.count(9));
        Check.due("undo", true, m.undo());
        Check.due("hour", 60, m.count(2));
    }

    /** Where it lies comes back too, though it has fallen elsewhere meanwhile. */
    private static void lying() {
        FallMarket m = Check.of("fruit a 2 1 1; falls = if shaken < 1 then 0 else 100; bounces = hour;");
        m.hold(0);
        m.shake(0);
        m.hours(1);
        m.hold(1);
        Check.due("lies", 2, m.fruit(0, 0));
        m.restore(0);
        m.hours(4);
        m.shake(0);
        m.hours(1);
        Check.due("lies elsewhere", 6, m.fruit(0, 0));
        m.restore(1);
        Check.due("lies again", 2, m.fruit(0, 0));
    }

    private static void slots() {
        FallMarket m = Check.of(TEXT);
        Check.due("hold(3)", false, m.hold(3));
        Check.due("hold(-1)", false, m.hold(-1));
        Check.due("restore(3)", false, m.restore(3));
        Check.due("restore(-1)", false, m.restore(-1));
        Check.due("restore(0)", false, m.restore(0));
        m.hours(2);
        m.shake(0);
        String first = seen(m);
        Check.due("hold(0)", true, m.hold(0));
        Check.due("hold is no thing done", 2, m.count(9));
        m.prop(1, true);
        m.go(0, 8);
        m.hours(3);
        String second = seen(m);
        Check.due("hold(2)", true, m.hold(2));
        Check.due("slots", 2, m.count(11));
        m.tell(3, 3);
        m.hours(30);
        int done = m.count(9);
        Check.due("restore(1)", false, m.restore(1));
        Check.due("nothing happened", done, m.count(9));
        Check.due("nothing happened", 35, m.count(2));
        Check.due("restore(0)", true, m.restore(0));
        Check.due("as it was", true, seen(m).equals(first));
        Check.due("nothing to undo", 0, m.count(9));
        Check.due("undo", false, m.undo());
        Check.due("told stays", 1, m.count(10));
        Check.due("restore(2)", true, m.restore(2));
        Check.due("as it was", true, seen(m).equals(second));
        m.hours(7);
        Check.due("restore(0) again", true, m.restore(0));
        Check.due("as it was", true, seen(m).equals(first));
        m.hours(7);
        m.hold(0);
        m.hours(7);
        m.restore(0);
        Check.due("held anew", 9, m.count(2));
        Check.due("slots", 2, m.count(11));
    }
}
