import java.util.function.Consumer;
import java.util.function.Supplier;

/** What the tests share: answers that are due, texts put on the tape, and calls after which nothing has changed. */
final class Check {
    private static int wrong = 0;
    private static int asked = 0;

    private Check() {
    }

    static void due(String call, long want, long got) {
        asked++;
        if (got != want) {
            wrong++;
            System.out.println(call + " answered " + got + ", due is " + want);
        }
    }

    static void due(String call, boolean want, boolean got) {
        due(call, want ? 1 : 0, got ? 1 : 0);
    }

    /** Puts the text on the tape, byte for byte (characters 0 to 255). */
    static void type(FallMarket market, String text) {
        int padding = (20 - text.length() % 20) % 20;
        String padded = text + " ".repeat(padding);
        for (int at = 0; at < padded.length(); at += 20) {
            market.feed(four(padded, at), four(padded, at + 4), four(padded, at + 8), four(padded, at + 12),
                four(padded, at + 16));
        }
        market.back(padding);
    }

    static int four(String text, int at) {
        int word = 0;
        for (int i = 0; i < 4; i++) {
            word = word << 8 | text.charAt(at + i) & 255;
        }
        return word;
    }

    /** A new object that has read the text, which must be without a fault. */
    static FallMarket of(String text) {
        FallMarket market = new FallMarket();
        type(market, text);
        due("read of " + text, 0, market.read());
        return market;
    }

    /** The text has this fault at this place. */
    static void fault(String text, int number, int place) {
        FallMarket market = new FallMarket();
        type(market, text);
        due("fault of [" + text + "]", number, market.read());
        due("place in [" + text + "]", place, market.place());
        due("tape behind [" + text + "]", 0, market.count(8));
    }

    /** All that can be seen but for the latest fault and what would be: some 60 calls, and 12 for each fruit. */
    static String seen(FallMarket m) {
        StringBuilder all = new StringBuilder("counts");
        for (int what = 0; what <= 18; what++) {
            all.append(' ').append(m.count(what));
        }
        for (int i = 0; i < m.count(0); i++) {
            all.append(", fruit ").append(i);
            for (int what = 0; what < 8; what++) {
                all.append(' ').append(m.fruit(i, what));
            }
            for (int what = 0; what < 4; what++) {
                all.append(' ').append(m.tells(i, what));
            }
        }
        for (int i = 0; i < m.count(1); i++) {
            all.append(", buyer ").append(i);
            for (int what = 0; what < 4; what++) {
                all.append(' ').append(m.buyer(i, what));
            }
        }
        for (int k = 0; k <= m.count(10); k++) {
            all.append(", rows ").append(m.rows(k)).append(' ').append(m.ask(k)).append(' ').append(m.sure(k, 0));
        }
        return all.toString();
    }

    static void same(String name, FallMarket want, FallMarket got) {
        String due = seen(want);
        String is = seen(got);
        asked++;
        if (!is.equals(due)) {
            wrong++;
            System.out.println(name + " is seen as\n  " + is + "\n  due is\n  " + due);
        }
    }

    /**
     * Two objects come to the same point, one of them is called in vain: nothing tells them apart then, neither
     * by what is seen, nor by what is undone, nor by what is held, nor by the tape. Each look is at new objects,
     * so that none is called more than 512 times.
     */
    static void inVain(String name, Supplier<FallMarket> made, Consumer<FallMarket> calls) {
        lookAlike(name, made, calls, m -> { });
        for (int n = 1; n <= 3; n++) {
            int times = n;
            lookAlike(name + ", " + n + " undone", made, calls, m -> {
                for (int i = 0; i < times; i++) {
                    m.undo();
                }
            });
        }
        lookAlike(name + ", all undone", made, calls, m -> {
            for (int i = 0; i < 41; i++) {
                m.undo();
            }
        });
        for (int slot = 0; slot < 3; slot++) {
            int held = slot;
            lookAlike(name + ", slot " + slot + " restored", made, calls, m -> m.restore(held));
        }
        lookAlike(name + ", an hour later", made, calls, m -> m.hours(1));
        lookAlike(name + ", the tape read", made, calls, m -> m.read());
    }

    private static void lookAlike(String name, Supplier<FallMarket> made, Consumer<FallMarket> calls, Consumer<FallMarket> look) {
        FallMarket left = made.get();
        FallMarket called = made.get();
        calls.accept(called);
        look.accept(left);
        look.accept(called);
        due(name + ": place()", left.place(), called.place());
        same(name, left, called);
    }

    static void end(String name) {
        System.out.println(name + ": " + asked + " answers, " + wrong + " wrong");
        if (wrong != 0) {
            System.exit(1);
        }
    }
}
