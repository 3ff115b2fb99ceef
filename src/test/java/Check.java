/** What the tests share: answers that are due, and texts put on the tape. */
final class Check {
    private static int wrong = 0;
    private static int asked = 0;

    private Check() {
    }

    static void due(String call, long want, long got) {
        asked++;
        if (got != want) {
            wrong++;
            System.out.println(call + " answered " + got + ", due is " + want);
        }
    }

    static void due(String call, boolean want, boolean got) {
        due(call, want ? 1 : 0, got ? 1 : 0);
    }

    /** Puts the text on the tape, byte for byte (characters 0 to 255). */
    static void type(FallMarket market, String text) {
        int padding = (20 - text.length() % 20) % 20;
        String padded = text + " ".repeat(padding);
        for (int at = 0; at < padded.length(); at += 20) {
            market.feed(four(padded, at), four(padded, at + 4), four(padded, at + 8), four(padded, at + 12),
                four(padded, at + 16));
        }
        market.back(padding);
    }

    static int four(String text, int at) {
        int word = 0;
        for (int i = 0; i < 4; i++) {
            word = word << 8 | text.charAt(at + i) & 255;
        }
        return word;
    }

    /** A new object that has read the text, which must be without a fault. */
    static FallMarket of(String text) {
        FallMarket market = new FallMarket();
        type(market, text);
        due("read of " + text, 0, market.read());
        return market;
    }

    /** The text has this fault at this place. */
    static void fault(String text, int number, int place) {
        FallMarket market = new FallMarket();
        type(market, text);
        due("fault of [" + text + "]", number, market.read());
        due("place in [" + text + "]", place, market.place());
        due("tape behind [" + text + "]", 0, market.count(8));
    }

    static void end(String name) {
        System.out.println(name + ": " + asked + " answers, " + wrong + " wrong");
        if (wrong != 0) {
            System.exit(1);
        }
    }
}
