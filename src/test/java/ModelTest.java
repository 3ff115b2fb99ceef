import java.util.Random;

/** Random runs of calls, the class beside the model: every answer is the same. */
public final class ModelTest {
    private static final String[] VARS = {"ripe", "high", "hour", "blows", "across", "shaken", "propped", "lay", "left"};
    private static final String[] WORDS = {"fruit", "buyer", "wind", "=", ";", "(", ")", "+", "-", "*", "/", "<", "if", "then", "else",
        "seed", "fine", "keeps", "ripe", "left", "7", "0", "99", "12345", "abc", "abcdefghi", "a", "?", ".", "falls", "\u00ff", "A"};
    /** A name and, by parameter, what is asked: f fruit, b buyer, x, and the greatest of others. */
    private static final String[] CALLS = {"fruit f 7", "buyer b 3", "tells f 3", "go b x", "prop f 1", "shake f", "hours 5", "hours 48",
        "undo", "hangsOn f 4 1", "mean b x 4", "stand b 4 1", "props 3 1", "shakes f 100", "passes f 20", "windIn 60", "next 1",
        "catcher f", "then f 60 1", "then f 6 1", "paid b 60", "paid b 6", "much 60 3", "much 6 3", "last 1", "asleep", "year b f 9 5",
        "year b f 60 20", "tell 9 x", "tell t x", "forget", "rows 7", "sure 7 7", "ask 7", "hold 2", "restore 2", "count 18", "count 18",
        "place", "back 3", "go b x", "prop f 1", "shake f", "hours 1", "hours 2", "undo"};

    private static final int MOST_CALLS = 512;

    private final Random random;
    private int calls = 0;
    private final FallMarket market = new FallMarket();
    private final Model model = new Model();

    private ModelTest(int run) {
        random = new Random(run);
    }

    public static void main(String[] args) {
        int runs = args.length > 0 ? Integer.parseInt(args[0]) : 400;
        for (int run = 0; run < runs; run++) {
            new ModelTest(run).go(run);
        }
        Check.end("ModelTest");
    }

    private void go(int run) {
        while (calls < MOST_CALLS) {
            put(run, random.nextInt(4) == 0 ? broken(text()) : text());
            int stay = random.nextInt(200);
            for (int n = 0; n < stay && calls < MOST_CALLS; n++) {
                one(run, CALLS[random.nextInt(CALLS.length)]);
            }
        }
    }

    private void put(int run, String whole) {
        String text = whole.length() > 2000 ? whole.substring(0, 2000) : whole;
        same(run, "back", model.call("count", 8));
        int padding = (20 - text.length() % 20) % 20;
        String padded = text + " ".repeat(padding);
        for (int at = 0; at < padded.length(); at += 20) {
            same(run, "feed", Check.four(padded, at), Check.four(padded, at + 4), Check.four(padded, at + 8), Check.four(padded, at + 12),
                Check.four(padded, at + 16));
        }
        same(run, "back", padding);
        same(run, "read");
        same(run, "place");
    }

    private void one(int run, String told) {
        String[] parts = told.split(" ");
        int[] a = new int[parts.length - 1];
        for (int i = 0; i < a.length; i++) {
            switch (parts[i + 1]) {
                case "f": a[i] = any(Math.max(0, model.call("count", 0) - 1)); break;
                case "b": a[i] = any(Math.max(0, model.call("count", 1) - 1)); break;
                case "x": a[i] = any(9); break;
                case "t": a[i] = 1 + random.nextInt(3); break;
                default: a[i] = any(Integer.parseInt(parts[i + 1])); break;
            }
        }
        same(run, parts[0], a);
    }

    private int any(int most) {
        int n = random.nextInt(60);
        if (n == 0) {
            return random.nextInt();
        }
        return n == 1 ? -1 : n == 2 ? most + 1 : n == 3 ? most : random.nextInt(most + 1);
    }

    private void same(int run, String name, int... a) {
        // Behind so many calls answers are free.
        if (calls == MOST_CALLS) {
            return;
        }
        calls++;
        if ((name.equals("prop") || name.equals("hangsOn") || name.equals("next")) && a[a.length - 1] != 1) {
            a[a.length - 1] = 0;
        }
        StringBuilder call = new StringBuilder("run " + run + ": " + name);
        for (int n : a) {
            call.append(' ').append(n);
        }
        Check.due(call.toString(), model.call(name, a), answer(name, a));
    }

    private int answer(String name, int[] a) {
        switch (name) {
            case "feed": return market.feed(a[0], a[1], a[2], a[3], a[4]);
            case "back": return market.back(a[0]);
            case "read": return market.read();
            case "place": return market.place();
            case "fruit": return market.fruit(a[0], a[1]);
            case "buyer": return market.buyer(a[0], a[1]);
            case "tells": return market.tells(a[0], a[1]);
            case "go": return market.go(a[0], a[1]) ? 1 : 0;
            case "prop": return market.prop(a[0], a[1] == 1) ? 1 : 0;
            case "shake": return market.shake(a[0]);
            case "hours": return market.hours(a[0]);
            case "undo": return market.undo() ? 1 : 0;
            case "hangsOn": return market.hangsOn(a[0], a[1], a[2] == 1);
            case "mean": return market.mean(a[0], a[1], a[2]);
            case "stand": return market.stand(a[0], a[1], a[2]);
            case "props": return market.props(a[0], a[1]);
            case "shakes": return market.shakes(a[0], a[1]);
            case "passes": return market.passes(a[0], a[1]);
            case "windIn": return market.windIn(a[0]);
            case "next": return market.next(a[0] == 1);
            case "catcher": return market.catcher(a[0]);
            case "then": return market.then(a[0], a[1], a[2]);
            case "paid": return market.paid(a[0], a[1]);
            case "much": return market.much(a[0], a[1]);
            case "last": return market.last(a[0]);
            case "asleep": return market.asleep();
            case "year": return market.year(a[0], a[1], a[2], a[3]);
            case "tell": return market.tell(a[0], a[1]);
            case "forget": return market.forget();
            case "rows": return market.rows(a[0]);
            case "sure": return market.sure(a[0], a[1]);
            case "ask": return market.ask(a[0]);
            case "hold": return market.hold(a[0]) ? 1 : 0;
            case "restore": return market.restore(a[0]) ? 1 : 0;
            case "count": return market.count(a[0]);
            default: throw new IllegalArgumentException(name);
        }
    }

    // ---- texts

    private String text() {
        StringBuilder text = new StringBuilder();
        int fruit = random.nextInt(8);
        int buyers = random.nextInt(5);
        int highs = 1 + random.nextInt(3);
        for (int i = 0; i < fruit; i++) {
            text.append("fruit f" + (char) ('a' + i) + " " + random.nextInt(10) + " " + (1 + random.nextInt(highs)) + " "
                + random.nextInt(random.nextBoolean() ? 100 : 10) + "; ");
        }
        for (int i = 0; i < buyers; i++) {
            text.append("buyer b" + (char) ('a' + i) + " " + random.nextInt(10) + " " + random.nextInt(4) + " "
                + random.nextInt(random.nextBoolean() ? 1000 : 50) + ";\n");
        }
        String[] names = {"wind", "ripens", "falls", "worth", "bounces", "found"};
        String[] plain = {"hour - hour / 7 * 7", "2 - propped + shaken", "ripe / (2 + propped * 3) + blows + shaken * 7 + left",
            "ripe - lay * 3 + high", "high - 2 - across / 5", "shaken * 9 + blows"};
        for (int i = 0; i < 6; i++) {
            int how = random.nextInt(4);
            if (how > 0) {
                text.append(names[i] + " = " + (how == 1 ? plain[i] : law()) + ";");
            }
        }
        if (random.nextBoolean()) {
            text.append("seed " + random.nextInt(10000) + "; keeps " + random.nextInt(5) + "; fine " + random.nextInt(100) + ";");
        }
        return text.toString();
    }

    private String law() {
        StringBuilder law = new StringBuilder();
        int ifs = random.nextInt(40) == 0 ? 5 : random.nextInt(4);
        for (int i = 0; i < ifs; i++) {
            law.append("if " + sum(1) + " < " + sum(1) + " then " + sum(1) + " else ");
        }
        return law + sum(random.nextInt(30) == 0 ? 8 : 2);
    }

    private String sum(int deep) {
        int n = random.nextInt(10);
        if (n < 4 || deep == 0) {
            return n % 2 == 0 ? VARS[random.nextInt(9)] : "" + random.nextInt(random.nextInt(8) == 0 ? 10000 : 30);
        }
        if (n < 6) {
            return "(" + sum(deep - 1) + ")";
        }
        return sum(deep - 1) + " " + "+-*/".charAt(random.nextInt(4)) + " " + sum(deep - 1);
    }

    private String broken(String text) {
        StringBuilder broken = new StringBuilder(text);
        int times = 1 + random.nextInt(2);
        for (int i = 0; i < times; i++) {
            int at = random.nextInt(broken.length() + 1);
            switch (random.nextInt(6)) {
                case 0: broken.setLength(at); break;
                case 1: broken.insert(at, " " + WORDS[random.nextInt(WORDS.length)] + " "); break;
                case 2: broken.delete(at, Math.min(broken.length(), at + 1 + random.nextInt(5))); break;
                case 3: broken.append(text); break;
                case 4: broken.append("seed 1;".repeat(100 + random.nextInt(40))); break;
                default:
                    if (at < broken.length()) {
                        broken.setCharAt(at, (char) random.nextInt(random.nextBoolean() ? 256 : 128));
                    }
                    break;
            }
        }
        return broken.toString();
    }
}
