import java.math.BigInteger;
import java.util.ArrayDeque;
import java.util.ArrayList;
import java.util.Arrays;
import java.util.Deque;
import java.util.HashMap;
import java.util.HashSet;
import java.util.List;
import java.util.Map;
import java.util.Set;
import java.util.regex.Matcher;
import java.util.regex.Pattern;

/**
 * The document once more, told as plainly as can be and by other ways than the class goes (a table of the
 * grammar, texts of laws worked out as they stand, everything tried out), so that slips of either show.
 */
final class Model {
    /** A fruit or buyer, by what is told and how it is. */
    private static final class Fruit implements Cloneable {
        int x, high, ripe, lies, how, owner = -2, lay, propped, shaken;

        Fruit copy() {
            try {
                return (Fruit) clone();
            } catch (CloneNotSupportedException e) {
                throw new IllegalStateException(e);
            }
        }
    }

    private static final class State {
        List<Fruit> fruit = new ArrayList<>();
        int[] at = new int[0];
        int[] coins = new int[0];
        int hour, shakes, found;

        State copy() {
            State other = new State();
            for (Fruit f : fruit) {
                other.fruit.add(f.copy());
            }
            other.at = at.clone();
            other.coins = coins.clone();
            other.hour = hour;
            other.shakes = shakes;
            other.found = found;
            return other;
        }

        int left() {
            int n = 0;
            for (Fruit f : fruit) {
                n += f.how == 0 ? 1 : 0;
            }
            return n;
        }
    }

    private record Token(String sort, String text, int at) {
    }

    private static final class Zero extends RuntimeException {
        private static final long serialVersionUID = 1;
    }

    private static final Set<String> LAWS = Set.of("wind", "ripens", "falls", "worth", "bounces", "found");
    private static final Set<String> VARS = Set.of("ripe", "high", "hour", "blows", "across", "shaken", "propped", "lay", "left");
    private static final Set<String> OTHERS = Set.of("fruit", "buyer", "fine", "keeps", "seed", "if", "then", "else");

    private final StringBuilder tape = new StringBuilder();
    private int place = -1;
    private State begin = new State();
    private State now = new State();
    private int[] reach = new int[0];
    private int fine = 10;
    private int keeps = 6;
    private int seed = 0;
    private Map<String, List<String>> laws = new HashMap<>();
    private final Deque<State> done = new ArrayDeque<>();
    private final State[] slots = new State[3];
    private final List<int[]> told = new ArrayList<>();

    // ---- texts

    private static List<Token> tokens(String text) {
        List<Token> list = new ArrayList<>();
        Matcher m = Pattern.compile("[a-z]+|[0-9]+|[^\\t\\n\\r ]", Pattern.DOTALL).matcher(text);
        while (m.find()) {
            String s = m.group();
            String sort;
            if (s.matches("[a-z]+")) {
                sort = s.length() > 8 ? "?" : LAWS.contains(s) ? "law" : VARS.contains(s) ? "var" : OTHERS.contains(s) ? s : "name";
            } else if (s.matches("[0-9]+")) {
                sort = s.length() > 4 ? "?" : "int";
            } else {
                sort = ";=+-*/<()".contains(s) ? s : "?";
            }
            list.add(new Token(sort, s, m.start()));
        }
        list.add(new Token("end", "", text.length()));
        return list;
    }

    /** What a sort of the grammar becomes with the token ahead; null: nothing does. */
    private static String[] rule(String symbol, String next) {
        boolean unit = next.equals("int") || next.equals("var") || next.equals("(");
        switch (symbol) {
            case "TEXT":
                return next.equals("end") ? new String[0] : new String[] {"TELL", "TEXT"};
            case "TELL":
                switch (next) {
                    case "fruit": case "buyer": return new String[] {next, "name", "int", "int", "int", ";"};
                    case "law": return new String[] {"law", "=", "LAW", ";"};
                    case "fine": case "keeps": case "seed": return new String[] {next, "int", ";"};
                    default: return null;
                }
            case "LAW":
                return next.equals("if") ? new String[] {"if", "E", "<", "E", "then", "E", "else", "LAW"} : unit ? new String[] {"E"} : null;
            case "E":
                return unit ? new String[] {"PART", "E2"} : null;
            case "E2":
                return next.equals("+") || next.equals("-") ? new String[] {next, "PART", "E2"} : new String[0];
            case "PART":
                return unit ? new String[] {"UNIT", "PART2"} : null;
            case "PART2":
                return next.equals("*") || next.equals("/") ? new String[] {next, "UNIT", "PART2"} : new String[0];
            case "UNIT":
                return next.equals("(") ? new String[] {"(", "E", ")"} : unit ? new String[] {next} : null;
            default:
                return null;
        }
    }

    /** The fault of syntax or room and its place, or null. */
    private static int[] hardFault(List<Token> tokens) {
        Deque<String> stack = new ArrayDeque<>(List.of("TEXT"));
        int fruit = 0;
        int buyers = 0;
        int ifs = 0;
        int open = 0;
        for (int i = 0; i < tokens.size(); i++) {
            Token t = tokens.get(i);
            while (!stack.isEmpty() && Character.isUpperCase(stack.peek().charAt(0))) {
                String[] becomes = rule(stack.pop(), t.sort());
                if (becomes == null) {
                    return new int[] {1, t.at()};
                }
                for (int k = becomes.length - 1; k >= 0; k--) {
                    stack.push(becomes[k]);
                }
            }
            if (t.sort().equals("end")) {
                return stack.isEmpty() ? null : new int[] {1, t.at()};
            }
            if (stack.isEmpty() || !stack.pop().equals(t.sort())) {
                return new int[] {1, t.at()};
            }
            switch (t.sort()) {
                case "fruit": fruit++; break;
                case "buyer": buyers++; break;
                case "law": ifs = 0; break;
                case "if": ifs++; break;
                case "(": open++; break;
                case ")": open--; break;
                default: break;
            }
            if (i >= 400 || fruit > 7 || buyers > 4 || ifs > 4 || open > 6) {
                return new int[] {2, t.at()};
            }
        }
        return null;
    }

    private static int[] softFault(List<Token> tokens) {
        Set<String> names = new HashSet<>();
        int[][] least = {{0, 1, 0}, {0, 0, 0}, {0}, {0}, {0}};
        int[][] most = {{9, 9, 99}, {9, 3, 999}, {99}, {99}, {9999}};
        int sort = -1;
        int number = 0;
        for (Token t : tokens) {
            int begins = List.of("fruit", "buyer", "fine", "keeps", "seed", "law").indexOf(t.sort());
            if (begins >= 0) {
                sort = begins;
                number = 0;
            } else if (t.sort().equals("name") && !names.add(t.text())) {
                return new int[] {3, t.at()};
            } else if (t.sort().equals("int") && sort < 5) {
                int value = Integer.parseInt(t.text());
                if (value < least[sort][number] || value > most[sort][number]) {
                    return new int[] {5, t.at()};
                }
                number++;
            }
        }
        return null;
    }

    private int read() {
        List<Token> tokens = tokens(tape.toString());
        tape.setLength(0);
        int[] fault = hardFault(tokens);
        if (fault == null) {
            fault = softFault(tokens);
        }
        place = fault == null ? -1 : fault[1];
        if (fault != null) {
            return fault[0];
        }
        begin = new State();
        laws = new HashMap<>();
        reach = new int[0];
        fine = 10;
        keeps = 6;
        seed = 0;
        List<String> words = new ArrayList<>();
        for (Token t : tokens) {
            if (t.text().equals(";")) {
                takeTell(words);
                words = new ArrayList<>();
            } else {
                words.add(t.text());
            }
        }
        now = begin.copy();
        done.clear();
        told.clear();
        Arrays.fill(slots, null);
        return 0;
    }

    private void takeTell(List<String> words) {
        switch (words.get(0)) {
            case "fruit": {
                Fruit f = new Fruit();
                f.x = Integer.parseInt(words.get(2));
                f.high = Integer.parseInt(words.get(3));
                f.ripe = Integer.parseInt(words.get(4));
                begin.fruit.add(f);
                break;
            }
            case "buyer":
                begin.at = with(begin.at, Integer.parseInt(words.get(2)));
                reach = with(reach, Integer.parseInt(words.get(3)));
                begin.coins = with(begin.coins, Integer.parseInt(words.get(4)));
                break;
            case "fine": fine = Integer.parseInt(words.get(1)); break;
            case "keeps": keeps = Integer.parseInt(words.get(1)); break;
            case "seed": seed = Integer.parseInt(words.get(1)); break;
            default: laws.put(words.get(0), words.subList(2, words.size())); break;
        }
    }

    private static int[] with(int[] row, int n) {
        int[] longer = Arrays.copyOf(row, row.length + 1);
        longer[row.length] = n;
        return longer;
    }

    // ---- laws

    private static int work(List<String> words, Map<String, Integer> vars) {
        int from = 0;
        try {
            while (words.get(from).equals("if")) {
                int less = words.subList(from, words.size()).indexOf("<") + from;
                int then = words.subList(from, words.size()).indexOf("then") + from;
                int otherwise = words.subList(from, words.size()).indexOf("else") + from;
                if (sum(words.subList(from + 1, less), vars) < sum(words.subList(less + 1, then), vars)) {
                    return sum(words.subList(then + 1, otherwise), vars);
                }
                from = otherwise + 1;
            }
            return sum(words.subList(from, words.size()), vars);
        } catch (Zero zero) {
            return 0;
        }
    }

    /** Splits at the last sign of the least binding outside of brackets. */
    private static int sum(List<String> words, Map<String, Integer> vars) {
        for (String signs : List.of("+-", "*/")) {
            int open = 0;
            for (int i = words.size() - 1; i >= 0; i--) {
                String w = words.get(i);
                open += w.equals(")") ? 1 : w.equals("(") ? -1 : 0;
                if (open == 0 && signs.contains(w)) {
                    int a = sum(words.subList(0, i), vars);
                    int b = sum(words.subList(i + 1, words.size()), vars);
                    if (w.equals("/") && b == 0) {
                        throw new Zero();
                    }
                    return w.equals("+") ? a + b : w.equals("-") ? a - b : w.equals("*") ? a * b : a / b;
                }
            }
        }
        String w = words.get(0);
        if (w.equals("(")) {
            return sum(words.subList(1, words.size() - 1), vars);
        }
        return Character.isDigit(w.charAt(0)) ? Integer.parseInt(w) : vars.getOrDefault(w, 0);
    }

    private int law(String name, Map<String, Integer> vars, int least, int most) {
        String plain = name.equals("ripens") ? "1" : name.equals("falls") || name.equals("worth") ? "ripe" : "0";
        return Math.max(least, Math.min(most, work(laws.getOrDefault(name, List.of(plain)), vars)));
    }

    private int wind(int hour, int left) {
        return law("wind", Map.of("hour", hour, "left", left), 0, 9);
    }

    private int falls(Fruit f, int hour, int left, int wind, int shaken) {
        return law("falls", fruitVars(f, hour, left, wind, shaken), 0, 100);
    }

    private int ripens(Fruit f, int hour, int left, int wind, int shaken) {
        return law("ripens", fruitVars(f, hour, left, wind, shaken), -9, 9);
    }

    private static Map<String, Integer> fruitVars(Fruit f, int hour, int left, int wind, int shaken) {
        return Map.of("hour", hour, "left", left, "ripe", f.ripe, "high", f.high, "across", f.x, "shaken", shaken,
            "propped", f.propped, "blows", wind);
    }

    private int worth(Fruit f, int hour, int left, int lay) {
        return law("worth", Map.of("hour", hour, "left", left, "ripe", f.ripe, "high", f.high, "across", f.x, "lay", lay), 0, 99);
    }

    private int bounces(Fruit f, int hour, int left) {
        return law("bounces", Map.of("hour", hour, "left", left, "ripe", f.ripe, "high", f.high, "across", f.x), -9, 9);
    }

    // ---- hours

    private void hour(State s, int bySeed) {
        State began = s.copy();
        int left = began.left();
        int wind = wind(began.hour, left);
        for (int i = 0; i < s.fruit.size(); i++) {
            Fruit f = s.fruit.get(i);
            if (began.fruit.get(i).how == 1) {
                int price = worth(f, s.hour, left, f.lay);
                for (int b = 0; b < s.at.length && f.how == 1; b++) {
                    if (s.at[b] == f.lies && s.coins[b] >= price) {
                        buy(s, f, b, price);
                    }
                }
                if (f.how == 1) {
                    f.lay++;
                    f.how = f.lay > keeps ? 3 : 1;
                }
            }
        }
        for (int i = 0; i < s.fruit.size(); i++) {
            Fruit f = s.fruit.get(i);
            if (f.how != 0) {
                continue;
            }
            if (HourTest.lot(bySeed, 16 * s.hour + i) >= falls(f, s.hour, left, wind, f.shaken)) {
                f.ripe = Math.max(0, Math.min(99, f.ripe + ripens(f, s.hour, left, wind, f.shaken)));
                continue;
            }
            int price = worth(f, s.hour, left, 0);
            int who = nearest(s.at, f.x, s.coins, price);
            if (who >= 0) {
                buy(s, f, who, price);
            } else {
                f.how = 1;
                f.lies = Math.max(0, Math.min(9, f.x + bounces(f, s.hour, left)));
            }
        }
        s.hour++;
        for (Fruit f : s.fruit) {
            f.shaken = 0;
        }
    }

    private static void buy(State s, Fruit f, int who, int price) {
        f.how = 2;
        f.owner = who;
        s.coins[who] -= price;
    }

    private int nearest(int[] at, int x, int[] coins, int price) {
        for (int far = 0; far <= 3; far++) {
            for (int b = 0; b < at.length; b++) {
                if (Math.abs(at[b] - x) == far && far <= reach[b] && (coins == null || coins[b] >= price)) {
                    return b;
                }
            }
        }
        return -2;
    }

    private State in(int n, int bySeed) {
        State s = now.copy();
        for (int i = 0; i < n; i++) {
            hour(s, bySeed);
        }
        return s;
    }

    // ---- what would be

    /** By hour: how likely it falls in it, as a whole number times 100 so many times as that hour tells. */
    private List<BigInteger> fallsBy(Fruit of, int n, List<Integer> worths) {
        List<BigInteger> list = new ArrayList<>();
        Fruit f = of.copy();
        BigInteger hangs = BigInteger.ONE;
        for (int j = 0; j < n; j++) {
            int hour = now.hour + j;
            int wind = wind(hour, now.left());
            int odds = falls(f, hour, now.left(), wind, j == 0 ? f.shaken : 0);
            worths.add(worth(f, hour, now.left(), 0));
            list.add(hangs.multiply(BigInteger.valueOf(odds)));
            hangs = hangs.multiply(BigInteger.valueOf(100 - odds));
            f.ripe = Math.max(0, Math.min(99, f.ripe + ripens(f, hour, now.left(), wind, j == 0 ? f.shaken : 0)));
        }
        return list;
    }

    private int hangsOn(int i, int n, boolean below) {
        if (!isFruit(i) || n < 1 || n > 4) {
            return -1;
        }
        if (now.fruit.get(i).how != 0) {
            return -2;
        }
        BigInteger all = BigInteger.valueOf(100).pow(n);
        BigInteger rest = all;
        List<BigInteger> falls = fallsBy(now.fruit.get(i), n, new ArrayList<>());
        for (int j = 0; j < n; j++) {
            rest = rest.subtract(falls.get(j).multiply(BigInteger.valueOf(100).pow(n - 1 - j)));
        }
        BigInteger shared = all.gcd(rest);
        return (below ? all : rest).divide(shared).intValue();
    }

    private BigInteger meanAt(int buyer, int x, int n) {
        int[] at = now.at.clone();
        at[buyer] = x;
        BigInteger total = BigInteger.ZERO;
        for (Fruit f : now.fruit) {
            if (f.how == 0 && nearest(at, f.x, null, 0) == buyer) {
                List<Integer> worths = new ArrayList<>();
                List<BigInteger> falls = fallsBy(f, n, worths);
                for (int j = 0; j < n; j++) {
                    total = total.add(falls.get(j).multiply(BigInteger.valueOf(worths.get(j))).multiply(BigInteger.valueOf(100).pow(n - 1 - j)));
                }
            }
        }
        return total;
    }

    private int stand(int buyer, int n, int what) {
        if (!isBuyer(buyer) || n < 1 || n > 4 || what < 0 || what > 1) {
            return -1;
        }
        int best = 0;
        for (int x = 1; x < 10; x++) {
            best = meanAt(buyer, x, n).compareTo(meanAt(buyer, best, n)) > 0 ? x : best;
        }
        return what == 0 ? best : meanAt(buyer, best, n).divide(BigInteger.valueOf(100).pow(n - 1)).intValue();
    }

    private int props(int m, int what) {
        if (m < 1 || m > 3 || what < 0 || what > 1) {
            return -1;
        }
        BigInteger most = BigInteger.valueOf(-1);
        int best = 0;
        for (int bits = 0; bits < 1 << now.fruit.size(); bits++) {
            BigInteger total = BigInteger.ZERO;
            for (int i = 0; i < now.fruit.size(); i++) {
                Fruit f = now.fruit.get(i).copy();
                f.propped = bits >> i & 1;
                if (f.how == 0) {
                    total = total.add(fallsBy(f, m, new ArrayList<>()).get(m - 1));
                }
            }
            if (total.compareTo(most) > 0) {
                most = total;
                best = bits;
            }
        }
        return what == 1 ? best : most.divide(BigInteger.valueOf(100).pow(m - 1)).intValue();
    }

    private int shakes(int i, int p) {
        if (!isFruit(i) || p < 0 || p > 100) {
            return -1;
        }
        Fruit f = now.fruit.get(i);
        for (int k = 0; k <= 20 && f.how == 0; k++) {
            if (falls(f, now.hour, now.left(), wind(now.hour, now.left()), f.shaken + k) >= p) {
                return k;
            }
        }
        return -2;
    }

    private int passes(int i, int k) {
        if (!isFruit(i) || k < 0 || k > 20) {
            return -1;
        }
        Fruit f = now.fruit.get(i);
        for (int w = 0; w <= 9 && f.how == 0; w++) {
            if (falls(f, now.hour, now.left(), w, 0) >= falls(f, now.hour, now.left(), wind(now.hour, now.left()), k)) {
                return w;
            }
        }
        return -2;
    }

    private int next(boolean odds) {
        int best = -2;
        int most = -2;
        for (int i = now.fruit.size() - 1; i >= 0; i--) {
            Fruit f = now.fruit.get(i);
            int likely = tells(i, 0);
            if (f.how == 0 && likely >= most) {
                best = i;
                most = likely;
            }
        }
        return odds ? most : best;
    }

    private int last(int what) {
        if (what < 0 || what > 1) {
            return -1;
        }
        int[] fell = new int[now.fruit.size()];
        State s = now.copy();
        for (int n = 1; n <= 200; n++) {
            State ahead = s.copy();
            hour(s, seed);
            for (int i = 0; i < fell.length; i++) {
                if (ahead.fruit.get(i).how == 0 && s.fruit.get(i).how != 0) {
                    fell[i] = n;
                }
            }
        }
        int best = -2;
        int most = 0;
        for (int i = 0; i < fell.length; i++) {
            if (fell[i] > 0 && fell[i] >= most) {
                best = i;
                most = fell[i];
            }
        }
        return s.left() > 0 || best < 0 ? -2 : what == 0 ? best : most;
    }

    private int asleep() {
        State s = now.copy();
        for (int n = 0; n <= 200; n++) {
            int sold = much(s, 2);
            hour(s, seed);
            if (much(s, 2) == sold) {
                return n;
            }
        }
        return -2;
    }

    private static int much(State s, int how) {
        int n = 0;
        for (Fruit f : s.fruit) {
            n += f.how == how ? 1 : 0;
        }
        return n;
    }

    private int year(int b, int i, int n, int s) {
        if (!isBuyer(b) || !isFruit(i) || n < 0 || n > 60 || s < 1 || s > 20) {
            return -1;
        }
        int times = 0;
        for (int k = 0; k < s; k++) {
            Fruit f = in(n, seed + k).fruit.get(i);
            times += f.how == 2 && f.owner == b ? 1 : 0;
        }
        return times;
    }

    // ---- told

    private List<int[]> allRows(int k) {
        List<int[]> rows = new ArrayList<>();
        rows.add(new int[0]);
        for (int i = 0; i < k; i++) {
            List<int[]> longer = new ArrayList<>();
            for (int[] row : rows) {
                for (int j = 0; j < begin.fruit.size(); j++) {
                    Fruit f = begin.fruit.get(j);
                    int lies = Math.max(0, Math.min(9, f.x + bounces(f, 0, begin.left())));
                    boolean taken = false;
                    for (int r : row) {
                        taken |= r == j;
                    }
                    if (!taken && f.high == told.get(i)[0] && lies == told.get(i)[1]) {
                        longer.add(with(row, j));
                    }
                }
            }
            rows = longer;
        }
        return rows;
    }

    private int sure(int k, int i) {
        if (k < 0 || k > told.size() || i < 0 || i >= k) {
            return -1;
        }
        Set<Integer> can = new HashSet<>();
        for (int[] row : allRows(k)) {
            can.add(row[i]);
        }
        return can.size() == 1 ? can.iterator().next() : -2;
    }

    private int ask(int k) {
        if (k < 0 || k > told.size()) {
            return -1;
        }
        int best = -2;
        int least = Integer.MAX_VALUE;
        List<int[]> rows = allRows(k);
        for (int i = 0; i < k && !rows.isEmpty(); i++) {
            int[] by = new int[7];
            for (int[] row : rows) {
                by[row[i]]++;
            }
            int worst = Arrays.stream(by).max().getAsInt();
            if (worst < least) {
                least = worst;
                best = i;
            }
        }
        return best;
    }

    // ---- what is seen and done

    private boolean isFruit(int i) {
        return i >= 0 && i < now.fruit.size();
    }

    private boolean isBuyer(int b) {
        return b >= 0 && b < now.at.length;
    }

    private void remember() {
        done.push(now.copy());
        while (done.size() > 40) {
            done.removeLast();
        }
    }

    private int fruit(int i, int what) {
        if (!isFruit(i) || what < 0 || what > 7) {
            return -1;
        }
        Fruit f = now.fruit.get(i);
        int[] all = {f.how == 1 ? f.lies : f.x, f.high, f.ripe, f.how, f.owner, f.lay, f.propped, f.shaken};
        return all[what];
    }

    private int buyer(int b, int what) {
        if (!isBuyer(b) || what < 0 || what > 3) {
            return -1;
        }
        int bits = 0;
        for (int i = 0; i < now.fruit.size(); i++) {
            bits |= now.fruit.get(i).owner == b ? 1 << i : 0;
        }
        int[] all = {now.at[b], reach[b], now.coins[b], bits};
        return all[what];
    }

    private int tells(int i, int what) {
        if (!isFruit(i) || what < 0 || what > 3) {
            return -100;
        }
        Fruit f = now.fruit.get(i);
        int left = now.left();
        int wind = wind(now.hour, left);
        return what == 0 ? falls(f, now.hour, left, wind, f.shaken) : what == 1 ? ripens(f, now.hour, left, wind, f.shaken)
            : what == 2 ? worth(f, now.hour, left, f.lay) : bounces(f, now.hour, left);
    }

    private int shake(int i) {
        if (!isFruit(i)) {
            return -1;
        }
        if (now.fruit.get(i).how != 0) {
            return -2;
        }
        remember();
        int lot = HourTest.lot(seed, 1000000 + now.shakes);
        now.shakes++;
        now.fruit.get(i).shaken++;
        int odds = law("found", Map.of("hour", now.hour, "left", now.left(), "shaken", now.shakes, "blows", wind(now.hour, now.left())), 0, 100);
        now.found += lot < odds ? 1 : 0;
        return lot < odds ? 1 : 0;
    }

    private int count(int what) {
        int[] bits = new int[4];
        int propped = 0;
        int ripe = 0;
        for (int i = 0; i < now.fruit.size(); i++) {
            Fruit f = now.fruit.get(i);
            bits[f.how] |= 1 << i;
            propped |= f.how == 0 && f.propped == 1 ? 1 << i : 0;
            ripe += f.how == 0 ? f.ripe : 0;
        }
        int held = 0;
        for (State s : slots) {
            held += s == null ? 0 : 1;
        }
        int[] all = {now.fruit.size(), now.at.length, now.hour, wind(now.hour, now.left()), bits[0], bits[1], bits[2], bits[3],
            tape.length(), done.size(), told.size(), held, now.shakes, now.found, now.found * fine, Arrays.stream(now.coins).sum(),
            propped, ripe, much(now, 2)};
        return what < 0 || what > 18 ? -1 : all[what];
    }

    private int feed(int[] five) {
        if (tape.length() > 1980) {
            return -1;
        }
        for (int four : five) {
            for (int shift = 24; shift >= 0; shift -= 8) {
                tape.append((char) (four >>> shift & 255));
            }
        }
        return tape.length();
    }

    private int go(int b, int x) {
        if (!isBuyer(b) || x < 0 || x > 9 || now.at[b] == x) {
            return 0;
        }
        remember();
        now.at[b] = x;
        return 1;
    }

    private int prop(int i, int props) {
        if (!isFruit(i) || now.fruit.get(i).how != 0 || now.fruit.get(i).propped == props) {
            return 0;
        }
        remember();
        now.fruit.get(i).propped = props;
        return 1;
    }

    private int hours(int n) {
        if (n < 0 || n > 48) {
            return -1;
        }
        if (n > 0) {
            remember();
            now = in(n, seed);
        }
        return now.hour;
    }

    private int tell(int high, int x) {
        if (told.size() == 7 || high < 1 || high > 9 || x < 0 || x > 9) {
            return -1;
        }
        told.add(new int[] {high, x});
        return told.size() - 1;
    }

    private int forget() {
        int n = told.size();
        told.clear();
        return n;
    }

    private int undo() {
        if (done.isEmpty()) {
            return 0;
        }
        now = done.pop();
        return 1;
    }

    private int hold(int slot) {
        if (slot < 0 || slot > 2) {
            return 0;
        }
        slots[slot] = now.copy();
        return 1;
    }

    private int restore(int slot) {
        if (slot < 0 || slot > 2 || slots[slot] == null) {
            return 0;
        }
        now = slots[slot].copy();
        done.clear();
        return 1;
    }

    private int back(int n) {
        if (n < 0 || n > tape.length()) {
            return -1;
        }
        tape.setLength(tape.length() - n);
        return tape.length();
    }

    private int catcher(int i) {
        if (!isFruit(i)) {
            return -1;
        }
        Fruit f = now.fruit.get(i);
        return nearest(now.at, f.x, now.coins, worth(f, now.hour, now.left(), 0));
    }

    int call(String name, int... a) {
        switch (name) {
            case "feed": return feed(a);
            case "back": return back(a[0]);
            case "read": return read();
            case "place": return place;
            case "fruit": return fruit(a[0], a[1]);
            case "buyer": return buyer(a[0], a[1]);
            case "tells": return tells(a[0], a[1]);
            case "go": return go(a[0], a[1]);
            case "prop": return prop(a[0], a[1]);
            case "shake": return shake(a[0]);
            case "hours": return hours(a[0]);
            case "undo": return undo();
            case "hangsOn": return hangsOn(a[0], a[1], a[2] == 1);
            case "mean":
                return !isBuyer(a[0]) || a[1] < 0 || a[1] > 9 || a[2] < 1 || a[2] > 4 ? -1
                    : meanAt(a[0], a[1], a[2]).divide(BigInteger.valueOf(100).pow(a[2] - 1)).intValue();
            case "stand": return stand(a[0], a[1], a[2]);
            case "props": return props(a[0], a[1]);
            case "shakes": return shakes(a[0], a[1]);
            case "passes": return passes(a[0], a[1]);
            case "windIn": return a[0] < 0 || a[0] > 60 ? -1 : wind(now.hour + a[0], now.left());
            case "next": return next(a[0] == 1);
            case "catcher": return catcher(a[0]);
            case "then":
                return !isFruit(a[0]) || a[1] < 0 || a[1] > 60 || a[2] < 0 || a[2] > 1 ? -1
                    : a[2] == 0 ? in(a[1], seed).fruit.get(a[0]).how : in(a[1], seed).fruit.get(a[0]).owner;
            case "paid": return !isBuyer(a[0]) || a[1] < 0 || a[1] > 60 ? -1 : now.coins[a[0]] - in(a[1], seed).coins[a[0]];
            case "much": return a[0] < 0 || a[0] > 60 || a[1] < 0 || a[1] > 3 ? -1 : much(in(a[0], seed), a[1]);
            case "last": return last(a[0]);
            case "asleep": return asleep();
            case "year": return year(a[0], a[1], a[2], a[3]);
            case "tell": return tell(a[0], a[1]);
            case "forget": return forget();
            case "rows": return a[0] < 0 || a[0] > told.size() ? -1 : allRows(a[0]).size();
            case "sure": return sure(a[0], a[1]);
            case "ask": return ask(a[0]);
            case "hold": return hold(a[0]);
            case "restore": return restore(a[0]);
            case "count": return count(a[0]);
            default: throw new IllegalArgumentException(name);
        }
    }
}
