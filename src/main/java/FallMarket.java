import java.util.Arrays;

/** Fruit that may be sold only if it fell of itself; shared/DOC.md says what each call answers. */
public final class FallMarket {
    public static final int NONE = -1;

    private static final int NOBODY = -2;
    private static final int NOT_SO = -2;
    private static final int NO_TELLING = -100;

    private static final int MAX_BYTES = 2000;
    private static final int FED_BYTES = 20;
    private static final int MAX_TOKENS = 400;
    private static final int MAX_LETTERS = 8;
    private static final int MAX_DIGITS = 4;
    private static final int MAX_IFS = 4;
    private static final int MAX_OPEN = 6;
    private static final int MAX_FRUIT = 7;
    private static final int MAX_BUYERS = 4;
    private static final int MAX_X = 9;
    private static final int MAX_HIGH = 9;
    private static final int MAX_RIPE = 99;
    private static final int MAX_REACH = 3;
    private static final int MAX_COINS = 999;
    private static final int MAX_FINE = 99;
    private static final int MAX_KEEPS = 99;
    private static final int MAX_SEED = 9999;
    private static final int MAX_WIND = 9;
    private static final int MAX_HOURS = 48;
    private static final int MAX_ODDS_HOURS = 4;
    private static final int MAX_PROPS_HOURS = 3;
    private static final int MAX_SHAKES = 20;
    private static final int MAX_AHEAD = 60;
    private static final int MAX_LONG_AHEAD = 200;
    private static final int MAX_SEEDS = 20;
    private static final int MAX_TOLD = 7;
    private static final int MAX_UNDO = 40;
    private static final int SLOTS = 3;
    private static final int SURELY = 100;

    private static final int SYNTAX = 1;
    private static final int ROOM = 2;
    private static final int TWICE = 3;
    private static final int WRONG = 5;

    private static final int HANGING = 0;
    private static final int LYING = 1;
    private static final int SOLD = 2;
    private static final int ROTTEN = 3;

    private static final int WIND = 0;
    private static final int RIPENS = 1;
    private static final int FALLS = 2;
    private static final int WORTH = 3;
    private static final int BOUNCES = 4;
    private static final int FOUND = 5;
    private static final int LAWS = 6;

    private static final int RIPE = 0;
    private static final int HIGH = 1;
    private static final int HOUR = 2;
    private static final int BLOWS = 3;
    private static final int ACROSS = 4;
    private static final int SHAKEN = 5;
    private static final int PROPPED = 6;
    private static final int LAY = 7;
    private static final int LEFT = 8;
    private static final int VARS = 9;

    /** What a law is held to, by law. */
    private static final int[] LEAST = {0, -9, 0, 0, -9, 0};
    private static final int[] MOST = {9, 9, 100, 99, 9, 100};

    /** The vars that are told for a law, one bit a var, by law. */
    private static final int[] TOLD_VARS = {
        1 << HOUR | 1 << LEFT,
        1 << HOUR | 1 << LEFT | 1 << RIPE | 1 << HIGH | 1 << ACROSS | 1 << SHAKEN | 1 << PROPPED | 1 << BLOWS,
        1 << HOUR | 1 << LEFT | 1 << RIPE | 1 << HIGH | 1 << ACROSS | 1 << SHAKEN | 1 << PROPPED | 1 << BLOWS,
        1 << HOUR | 1 << LEFT | 1 << RIPE | 1 << HIGH | 1 << ACROSS | 1 << LAY,
        1 << HOUR | 1 << LEFT | 1 << RIPE | 1 << HIGH | 1 << ACROSS,
        1 << HOUR | 1 << LEFT | 1 << SHAKEN | 1 << BLOWS,
    };

    /** Kinds of tokens: a word's kind is its number in WORDS, a sign's kind is the sign itself. */
    private static final String WORDS =
        "fruit buyer wind ripens falls worth bounces found fine keeps seed if then else ripe high hour blows across shaken propped lay left ";
    private static final int WORD_COUNT = 23;
    private static final int WORD_FRUIT = 0;
    private static final int WORD_BUYER = 1;
    private static final int WORD_WIND = 2;
    private static final int WORD_FOUND = 7;
    private static final int WORD_FINE = 8;
    private static final int WORD_KEEPS = 9;
    private static final int WORD_SEED = 10;
    private static final int WORD_IF = 11;
    private static final int WORD_THEN = 12;
    private static final int WORD_ELSE = 13;
    private static final int WORD_RIPE = 14;
    private static final int WORD_LEFT = 22;
    private static final int NAME = 23;
    private static final int INT = 24;
    private static final int NO_TOKEN = 25;
    private static final int END = 26;

    /** Cells of a law's code: 0 and more is a number, -1 .. -9 are the vars, these are what is done. */
    private static final int ADD = -10;
    private static final int SUBTRACT = -11;
    private static final int MULTIPLY = -12;
    private static final int DIVIDE = -13;
    private static final int ANSWER = -14;
    private static final int GO_ON_IF_LESS = -15;
    /** No token makes more than one cell but then, which makes two; six laws stand before the text. */
    private static final int MAX_CODE = 512;
    private static final int MAX_STACK = 32;

    private final byte[] tape = new byte[MAX_BYTES];
    private int taped = 0;
    private int faultPlace = NONE;
    private Text text = new Text();
    private Text spare = new Text();
    private final Parser parser = new Parser(spare);
    private final Laws laws = new Laws();
    private final Clock clock = new Clock(laws);
    private final Outlook outlook = new Outlook(laws);
    private final Ground now = new Ground();
    private final Ground ahead = new Ground();
    private final Trail trail = new Trail();
    private final int[] slots = new int[SLOTS * Ground.CELLS];
    private final boolean[] held = new boolean[SLOTS];
    private final Told told = new Told();

    public FallMarket() {
        begin();
    }

    public int feed(int a, int b, int c, int d, int e) {
        if (taped + FED_BYTES > MAX_BYTES) {
            return NONE;
        }
        append(a);
        append(b);
        append(c);
        append(d);
        append(e);
        return taped;
    }

    public int back(int n) {
        if (n < 0 || n > taped) {
            return NONE;
        }
        taped -= n;
        return taped;
    }

    public int read() {
        int fault = parser.parse(tape, taped, spare);
        faultPlace = parser.faultPlace();
        taped = 0;
        if (fault == 0) {
            Text older = text;
            text = spare;
            spare = older;
            begin();
        }
        return fault;
    }

    public int place() {
        return faultPlace;
    }

    public int fruit(int fruit, int what) {
        if (!isFruit(fruit)) {
            return NONE;
        }
        switch (what) {
            case 0: return now.how[fruit] == LYING ? now.liesAt[fruit] : text.hungAt[fruit];
            case 1: return text.high[fruit];
            case 2: return now.ripe[fruit];
            case 3: return now.how[fruit];
            case 4: return now.owner[fruit];
            case 5: return now.lain[fruit];
            case 6: return now.propped[fruit];
            case 7: return now.shaken[fruit];
            default: return NONE;
        }
    }

    public int buyer(int buyer, int what) {
        if (!isBuyer(buyer)) {
            return NONE;
        }
        switch (what) {
            case 0: return now.standsAt[buyer];
            case 1: return text.reach[buyer];
            case 2: return now.coins[buyer];
            case 3: return boughtBits(buyer);
            default: return NONE;
        }
    }

    public int tells(int fruit, int what) {
        if (!isFruit(fruit)) {
            return NO_TELLING;
        }
        lookAtNow(fruit);
        switch (what) {
            case 0: return laws.told(text, FALLS);
            case 1: return laws.told(text, RIPENS);
            case 2: return laws.told(text, WORTH);
            case 3: return laws.told(text, BOUNCES);
            default: return NO_TELLING;
        }
    }

    public boolean go(int buyer, int x) {
        if (!isBuyer(buyer) || !isWithin(x, 0, MAX_X) || now.standsAt[buyer] == x) {
            return false;
        }
        trail.remember(now);
        now.standsAt[buyer] = x;
        return true;
    }

    public boolean prop(int fruit, boolean props) {
        int wanted = props ? 1 : 0;
        if (!isFruit(fruit) || now.how[fruit] != HANGING || now.propped[fruit] == wanted) {
            return false;
        }
        trail.remember(now);
        now.propped[fruit] = wanted;
        return true;
    }

    public int shake(int fruit) {
        if (!isFruit(fruit)) {
            return NONE;
        }
        if (now.how[fruit] != HANGING) {
            return NOT_SO;
        }
        trail.remember(now);
        int lot = Clock.lot(text.seed, Clock.SHAKE_LOTS + now.shakes);
        now.shaken[fruit]++;
        now.shakes++;
        laws.setHour(text, now.hour, now.howMany(HANGING, text.fruits));
        laws.vars[SHAKEN] = now.shakes;
        boolean isFound = lot < laws.told(text, FOUND);
        if (isFound) {
            now.found++;
        }
        return isFound ? 1 : 0;
    }

    public int hours(int n) {
        if (!isWithin(n, 0, MAX_HOURS)) {
            return NONE;
        }
        if (n > 0) {
            trail.remember(now);
            for (int i = 0; i < n; i++) {
                clock.passHour(text, now, text.seed);
            }
        }
        return now.hour;
    }

    public boolean undo() {
        return trail.stepBack(now);
    }

    public int hangsOn(int fruit, int n, boolean below) {
        if (!isFruit(fruit) || !isWithin(n, 1, MAX_ODDS_HOURS)) {
            return NONE;
        }
        if (now.how[fruit] != HANGING) {
            return NOT_SO;
        }
        outlook.lookAhead(text, now, fruit, n, now.propped[fruit]);
        int above = 1;
        int whole = 1;
        for (int hour = 0; hour < n; hour++) {
            above *= SURELY - outlook.falls[hour];
            whole *= SURELY;
        }
        int shared = commonDivisor(above, whole);
        if (shared == 0) {
            return NONE;
        }
        return below ? whole / shared : above / shared;
    }

    public int mean(int buyer, int x, int n) {
        if (!isBuyer(buyer) || !isWithin(x, 0, MAX_X) || !isWithin(n, 1, MAX_ODDS_HOURS)) {
            return NONE;
        }
        outlook.weighCatches(text, now, n);
        return Outlook.inHundredths(catchesAt(buyer, x), n);
    }

    public int stand(int buyer, int n, int what) {
        if (!isBuyer(buyer) || !isWithin(n, 1, MAX_ODDS_HOURS) || !isWithin(what, 0, 1)) {
            return NONE;
        }
        outlook.weighCatches(text, now, n);
        int best = 0;
        long most = -1;
        for (int x = 0; x <= MAX_X; x++) {
            long catches = catchesAt(buyer, x);
            if (catches > most) {
                most = catches;
                best = x;
            }
        }
        return what == 0 ? best : Outlook.inHundredths(most, n);
    }

    public int props(int m, int what) {
        if (!isWithin(m, 1, MAX_PROPS_HOURS) || !isWithin(what, 0, 1)) {
            return NONE;
        }
        // A prop changes the odds of its own fruit alone, so each fruit is settled by itself.
        int bits = 0;
        long most = 0;
        for (int fruit = 0; fruit < text.fruits; fruit++) {
            if (now.how[fruit] == HANGING) {
                long bare = outlook.fallsInHour(text, now, fruit, m, 0);
                long propped = outlook.fallsInHour(text, now, fruit, m, 1);
                if (propped > bare) {
                    bits |= 1 << fruit;
                }
                most += Math.max(bare, propped);
            }
        }
        return what == 0 ? Outlook.inHundredths(most, m) : bits;
    }

    public int shakes(int fruit, int p) {
        if (!isFruit(fruit) || !isWithin(p, 0, SURELY)) {
            return NONE;
        }
        if (now.how[fruit] != HANGING) {
            return NOT_SO;
        }
        lookAtNow(fruit);
        for (int more = 0; more <= MAX_SHAKES; more++) {
            laws.vars[SHAKEN] = now.shaken[fruit] + more;
            if (laws.told(text, FALLS) >= p) {
                return more;
            }
        }
        return NOT_SO;
    }

    public int passes(int fruit, int k) {
        if (!isFruit(fruit) || !isWithin(k, 0, MAX_SHAKES)) {
            return NONE;
        }
        if (now.how[fruit] != HANGING) {
            return NOT_SO;
        }
        lookAtNow(fruit);
        laws.vars[SHAKEN] = k;
        int shakenOdds = laws.told(text, FALLS);
        laws.vars[SHAKEN] = 0;
        for (int wind = 0; wind <= MAX_WIND; wind++) {
            laws.vars[BLOWS] = wind;
            if (laws.told(text, FALLS) >= shakenOdds) {
                return wind;
            }
        }
        return NOT_SO;
    }

    public int windIn(int n) {
        if (!isWithin(n, 0, MAX_AHEAD)) {
            return NONE;
        }
        laws.setHour(text, now.hour + n, now.howMany(HANGING, text.fruits));
        return laws.vars[BLOWS];
    }

    public int next(boolean odds) {
        int best = NOT_SO;
        int most = NOT_SO;
        for (int fruit = 0; fruit < text.fruits; fruit++) {
            if (now.how[fruit] == HANGING) {
                lookAtNow(fruit);
                int likely = laws.told(text, FALLS);
                if (likely > most) {
                    most = likely;
                    best = fruit;
                }
            }
        }
        return odds ? most : best;
    }

    public int catcher(int fruit) {
        if (!isFruit(fruit)) {
            return NONE;
        }
        lookAtNow(fruit);
        laws.vars[LAY] = 0;
        return now.nearest(text, text.hungAt[fruit], laws.told(text, WORTH));
    }

    public int then(int fruit, int n, int what) {
        if (!isFruit(fruit) || !isWithin(n, 0, MAX_AHEAD) || !isWithin(what, 0, 1)) {
            return NONE;
        }
        goAhead(n);
        return what == 0 ? ahead.how[fruit] : ahead.owner[fruit];
    }

    public int paid(int buyer, int n) {
        if (!isBuyer(buyer) || !isWithin(n, 0, MAX_AHEAD)) {
            return NONE;
        }
        goAhead(n);
        return now.coins[buyer] - ahead.coins[buyer];
    }

    public int much(int n, int how) {
        if (!isWithin(n, 0, MAX_AHEAD) || !isWithin(how, HANGING, ROTTEN)) {
            return NONE;
        }
        goAhead(n);
        return ahead.howMany(how, text.fruits);
    }

    public int last(int what) {
        if (!isWithin(what, 0, 1)) {
            return NONE;
        }
        ahead.become(now);
        int hanging = ahead.bits(HANGING, text.fruits);
        for (int behind = 1; behind <= MAX_LONG_AHEAD && hanging != 0; behind++) {
            clock.passHour(text, ahead, text.seed);
            int left = ahead.bits(HANGING, text.fruits);
            if (left == 0) {
                return what == 0 ? highestFruit(hanging) : behind;
            }
            hanging = left;
        }
        return NOT_SO;
    }

    public int asleep() {
        ahead.become(now);
        for (int behind = 0; behind <= MAX_LONG_AHEAD; behind++) {
            int sold = ahead.howMany(SOLD, text.fruits);
            clock.passHour(text, ahead, text.seed);
            if (ahead.howMany(SOLD, text.fruits) == sold) {
                return behind;
            }
        }
        return NOT_SO;
    }

    public int year(int buyer, int fruit, int n, int s) {
        if (!isBuyer(buyer) || !isFruit(fruit) || !isWithin(n, 0, MAX_AHEAD) || !isWithin(s, 1, MAX_SEEDS)) {
            return NONE;
        }
        int times = 0;
        for (int more = 0; more < s; more++) {
            ahead.become(now);
            for (int hour = 0; hour < n && ahead.how[fruit] <= LYING; hour++) {
                clock.passHour(text, ahead, text.seed + more);
            }
            if (ahead.owner[fruit] == buyer) {
                times++;
            }
        }
        return times;
    }

    public int tell(int high, int x) {
        if (!isWithin(high, 1, MAX_HIGH) || !isWithin(x, 0, MAX_X)) {
            return NONE;
        }
        return told.add(high, x);
    }

    public int forget() {
        int forgotten = told.size;
        told.size = 0;
        return forgotten;
    }

    public int rows(int k) {
        return isWithin(k, 0, told.size) ? told.rowCount(text, k) : NONE;
    }

    public int sure(int k, int i) {
        if (!isWithin(k, 0, told.size) || !isWithin(i, 0, k - 1)) {
            return NONE;
        }
        boolean isOne = told.rowCount(text, k) > 0 && told.fitting(text, i) == 1;
        return isOne ? told.firstFitting(text, i) : NOT_SO;
    }

    public int ask(int k) {
        if (!isWithin(k, 0, told.size)) {
            return NONE;
        }
        if (k == 0 || told.rowCount(text, k) == 0) {
            return NOT_SO;
        }
        return told.widest(text, k);
    }

    public boolean hold(int slot) {
        if (!isWithin(slot, 0, SLOTS - 1)) {
            return false;
        }
        now.save(slots, slot * Ground.CELLS);
        held[slot] = true;
        return true;
    }

    public boolean restore(int slot) {
        if (!isWithin(slot, 0, SLOTS - 1) || !held[slot]) {
            return false;
        }
        now.load(slots, slot * Ground.CELLS);
        trail.clear();
        return true;
    }

    public int count(int what) {
        switch (what) {
            case 0: return text.fruits;
            case 1: return text.buyers;
            case 2: return now.hour;
            case 3: return windIn(0);
            case 4: return now.bits(HANGING, text.fruits);
            case 5: return now.bits(LYING, text.fruits);
            case 6: return now.bits(SOLD, text.fruits);
            case 7: return now.bits(ROTTEN, text.fruits);
            case 8: return taped;
            case 9: return trail.size;
            case 10: return told.size;
            case 11: return heldSlots();
            case 12: return now.shakes;
            case 13: return now.found;
            case 14: return now.found * text.fine;
            case 15: return allCoins();
            case 16: return proppedBits();
            case 17: return hangingRipeness();
            case 18: return now.howMany(SOLD, text.fruits);
            default: return NONE;
        }
    }

    private void append(int four) {
        for (int shift = 24; shift >= 0 && taped < MAX_BYTES; shift -= 8) {
            tape[taped] = (byte) (four >>> shift);
            taped++;
        }
    }

    private void begin() {
        now.begin(text);
        laws.settleRests(text);
        trail.clear();
        Arrays.fill(slots, 0);
        for (int slot = 0; slot < SLOTS; slot++) {
            held[slot] = false;
        }
        told.size = 0;
    }

    private boolean isFruit(int fruit) {
        return fruit >= 0 && fruit < text.fruits;
    }

    private boolean isBuyer(int buyer) {
        return buyer >= 0 && buyer < text.buyers;
    }

    private void lookAtNow(int fruit) {
        laws.setHour(text, now.hour, now.howMany(HANGING, text.fruits));
        laws.setFruit(text, now, fruit);
    }

    private void goAhead(int n) {
        ahead.become(now);
        for (int hour = 0; hour < n; hour++) {
            clock.passHour(text, ahead, text.seed);
        }
    }

    private long catchesAt(int buyer, int x) {
        ahead.become(now);
        ahead.standsAt[buyer] = x;
        long catches = 0;
        for (int fruit = 0; fruit < text.fruits; fruit++) {
            // Everybody has 0 coins or more, so at the price of 0 nobody's coins are looked at.
            if (ahead.nearest(text, text.hungAt[fruit], 0) == buyer) {
                catches += outlook.weights[fruit];
            }
        }
        return catches;
    }

    private int boughtBits(int buyer) {
        int bits = 0;
        for (int fruit = 0; fruit < text.fruits; fruit++) {
            if (now.owner[fruit] == buyer) {
                bits |= 1 << fruit;
            }
        }
        return bits;
    }

    private int heldSlots() {
        int some = 0;
        for (int slot = 0; slot < SLOTS; slot++) {
            if (held[slot]) {
                some++;
            }
        }
        return some;
    }

    private int allCoins() {
        int sum = 0;
        for (int buyer = 0; buyer < text.buyers; buyer++) {
            sum += now.coins[buyer];
        }
        return sum;
    }

    private int proppedBits() {
        int bits = 0;
        for (int fruit = 0; fruit < text.fruits; fruit++) {
            if (now.how[fruit] == HANGING && now.propped[fruit] == 1) {
                bits |= 1 << fruit;
            }
        }
        return bits;
    }

    private int hangingRipeness() {
        int sum = 0;
        for (int fruit = 0; fruit < text.fruits; fruit++) {
            if (now.how[fruit] == HANGING) {
                sum += now.ripe[fruit];
            }
        }
        return sum;
    }

    private static boolean isWithin(int n, int least, int most) {
        return n >= least && n <= most;
    }

    private static int heldTo(int n, int least, int most) {
        return Math.max(least, Math.min(most, n));
    }

    private static int highestFruit(int bits) {
        for (int fruit = MAX_FRUIT - 1; fruit >= 0; fruit--) {
            if ((bits >> fruit & 1) == 1) {
                return fruit;
            }
        }
        return NOT_SO;
    }

    private static int commonDivisor(int a, int b) {
        int larger = a;
        int smaller = b;
        // Euclid's rest at least halves in two steps: 64 are enough for every two ints.
        for (int step = 0; step < 64 && smaller != 0; step++) {
            int rest = larger % smaller;
            larger = smaller;
            smaller = rest;
        }
        return larger;
    }

    /** What a text without a fault tells; its laws are kept as cells that are gone through in order. */
    private static final class Text {
        int fruits = 0;
        final int[] hungAt = new int[MAX_FRUIT];
        final int[] high = new int[MAX_FRUIT];
        final int[] ripe = new int[MAX_FRUIT];
        /** Where each would lie if it fell as the text begins. */
        final int[] rests = new int[MAX_FRUIT];
        int buyers = 0;
        final int[] standsAt = new int[MAX_BUYERS];
        final int[] reach = new int[MAX_BUYERS];
        final int[] coins = new int[MAX_BUYERS];
        int fine = 0;
        int keeps = 0;
        int seed = 0;
        final int[] lawStart = new int[LAWS];
        final int[] code = new int[MAX_CODE];
        int codeSize = 0;

        Text() {
            clear();
        }

        void clear() {
            fruits = 0;
            buyers = 0;
            fine = 10;
            keeps = 6;
            seed = 0;
            codeSize = 0;
            addPlainLaw(WIND, 0);
            addPlainLaw(RIPENS, 1);
            addPlainLaw(FALLS, varCell(RIPE));
            addPlainLaw(WORTH, varCell(RIPE));
            addPlainLaw(BOUNCES, 0);
            addPlainLaw(FOUND, 0);
        }

        private void addPlainLaw(int law, int cell) {
            lawStart[law] = codeSize;
            emit(cell);
            emit(ANSWER);
        }

        static int varCell(int number) {
            return -1 - number;
        }

        void emit(int cell) {
            if (codeSize < MAX_CODE) {
                code[codeSize] = cell;
                codeSize++;
            }
        }

        void patch(int at, int cell) {
            if (at >= 0 && at < MAX_CODE) {
                code[at] = cell;
            }
        }

        void addFruit(int[] numbers) {
            if (fruits < MAX_FRUIT && numbers.length >= 3) {
                hungAt[fruits] = numbers[0];
                high[fruits] = numbers[1];
                ripe[fruits] = numbers[2];
                fruits++;
            }
        }

        void addBuyer(int[] numbers) {
            if (buyers < MAX_BUYERS && numbers.length >= 3) {
                standsAt[buyers] = numbers[0];
                reach[buyers] = numbers[1];
                coins[buyers] = numbers[2];
                buyers++;
            }
        }
    }

    /** The tokens of a tape up to the 401st, or to what is none. */
    private static final class Tokens {
        private final int[] kinds = new int[MAX_TOKENS + 1];
        private final int[] starts = new int[MAX_TOKENS + 1];
        private final long[] values = new long[MAX_TOKENS + 1];
        private final long[] words = new long[WORD_COUNT];

        Tokens() {
            int word = 0;
            long letters = 0;
            for (int i = 0; i < WORDS.length() && word < WORD_COUNT; i++) {
                char letter = WORDS.charAt(i);
                if (letter == ' ') {
                    words[word] = letters;
                    word++;
                    letters = 0;
                } else {
                    letters = withLetter(letters, letter);
                }
            }
        }

        int kindAt(int n) {
            return n >= 0 && n <= MAX_TOKENS ? kinds[n] : END;
        }

        int startAt(int n) {
            return n >= 0 && n <= MAX_TOKENS ? starts[n] : 0;
        }

        /** An INT's number, or a word's letters as one number, alike for alike words only. */
        long valueAt(int n) {
            return n >= 0 && n <= MAX_TOKENS ? values[n] : 0;
        }

        void cut(byte[] tape, int length) {
            int end = Math.min(length, tape.length);
            int at = 0;
            boolean isOver = false;
            for (int n = 0; n <= MAX_TOKENS && !isOver; n++) {
                while (at < end && isBlank(tape[at])) {
                    at++;
                }
                starts[n] = at;
                at = cutOne(n, tape, at, end);
                isOver = kinds[n] == END || kinds[n] == NO_TOKEN;
            }
        }

        /** Where what follows the n-th token, which starts at the byte told, starts. */
        private int cutOne(int n, byte[] tape, int at, int end) {
            if (at >= end) {
                kinds[n] = END;
                return at;
            }
            if (isLetter(tape[at])) {
                return cutWord(n, tape, at, end);
            }
            if (isDigit(tape[at])) {
                return cutNumber(n, tape, at, end);
            }
            kinds[n] = isSign(tape[at]) ? tape[at] : NO_TOKEN;
            return at + 1;
        }

        private int cutWord(int n, byte[] tape, int start, int end) {
            int at = start;
            long letters = 0;
            while (at < end && isLetter(tape[at])) {
                letters = withLetter(letters, tape[at]);
                at++;
            }
            values[n] = letters;
            kinds[n] = at - start > MAX_LETTERS ? NO_TOKEN : wordKind(letters);
            return at;
        }

        private int cutNumber(int n, byte[] tape, int start, int end) {
            int at = start;
            long number = 0;
            while (at < end && isDigit(tape[at])) {
                number = number * 10 + (tape[at] - '0');
                at++;
            }
            values[n] = number;
            kinds[n] = at - start > MAX_DIGITS ? NO_TOKEN : INT;
            return at;
        }

        private int wordKind(long letters) {
            for (int word = 0; word < WORD_COUNT; word++) {
                if (words[word] == letters) {
                    return word;
                }
            }
            return NAME;
        }

        private static long withLetter(long letters, int letter) {
            return letters * 27 + (letter - 'a' + 1);
        }

        private static boolean isBlank(int sign) {
            return sign == 9 || sign == 10 || sign == 13 || sign == 32;
        }

        private static boolean isLetter(int sign) {
            return sign >= 'a' && sign <= 'z';
        }

        private static boolean isDigit(int sign) {
            return sign >= '0' && sign <= '9';
        }

        private static boolean isSign(int sign) {
            switch (sign) {
                case ';': case '=': case '+': case '-': case '*': case '/': case '<': case '(': case ')':
                    return true;
                default:
                    return false;
            }
        }
    }

    /** Goes through a tape's tokens by the grammar; each method is false once there is a fault of syntax or room. */
    private static final class Parser {
        private final Tokens tokens = new Tokens();
        private Text into;
        private int at = 0;
        private int fault = 0;
        private int faultAt = NONE;
        /** The first fault of a name or number: it counts only if no fault of syntax or room follows. */
        private int laterFault = 0;
        private int laterFaultAt = NONE;
        private final long[] names = new long[MAX_FRUIT + MAX_BUYERS];
        private int nameCount = 0;
        private final int[] numbers = new int[3];

        Parser(Text first) {
            into = first;
        }

        int parse(byte[] tape, int length, Text text) {
            tokens.cut(tape, length);
            into = text;
            into.clear();
            at = 0;
            fault = 0;
            laterFault = 0;
            laterFaultAt = NONE;
            nameCount = 0;
            boolean isGood = true;
            for (int n = 0; n <= MAX_TOKENS && isGood && tokens.kindAt(at) != END; n++) {
                int kind = tokens.kindAt(at);
                if (kind == WORD_FRUIT) {
                    isGood = parseFruit();
                } else if (kind == WORD_BUYER) {
                    isGood = parseBuyer();
                } else if (kind >= WORD_WIND && kind <= WORD_FOUND) {
                    isGood = parseLaw(kind, kind - WORD_WIND);
                } else if (kind >= WORD_FINE && kind <= WORD_SEED) {
                    isGood = parseSetting(kind);
                } else {
                    isGood = refuse(SYNTAX);
                }
            }
            // The place stays where it was refused, so it still tells the faulty token.
            faultAt = isGood ? laterFaultAt : tokens.startAt(at);
            return isGood ? laterFault : fault;
        }

        int faultPlace() {
            return faultAt;
        }

        private boolean parseFruit() {
            if (into.fruits >= MAX_FRUIT) {
                return refuse(ROOM);
            }
            boolean isGood = take(WORD_FRUIT) && takeName()
                && takeNumber(0, 0, MAX_X) && takeNumber(1, 1, MAX_HIGH) && takeNumber(2, 0, MAX_RIPE)
                && take(';');
            if (isGood) {
                into.addFruit(numbers);
            }
            return isGood;
        }

        private boolean parseBuyer() {
            if (into.buyers >= MAX_BUYERS) {
                return refuse(ROOM);
            }
            boolean isGood = take(WORD_BUYER) && takeName()
                && takeNumber(0, 0, MAX_X) && takeNumber(1, 0, MAX_REACH) && takeNumber(2, 0, MAX_COINS)
                && take(';');
            if (isGood) {
                into.addBuyer(numbers);
            }
            return isGood;
        }

        private boolean parseSetting(int kind) {
            int most = kind == WORD_FINE ? MAX_FINE : kind == WORD_KEEPS ? MAX_KEEPS : MAX_SEED;
            if (!take(kind) || !takeNumber(0, 0, most) || !take(';')) {
                return false;
            }
            if (kind == WORD_FINE) {
                into.fine = numbers[0];
            } else if (kind == WORD_KEEPS) {
                into.keeps = numbers[0];
            } else {
                into.seed = numbers[0];
            }
            return true;
        }

        private boolean parseLaw(int kind, int law) {
            if (!take(kind) || !take('=')) {
                return false;
            }
            int start = into.codeSize;
            for (int ifs = 0; ifs <= MAX_IFS && tokens.kindAt(at) == WORD_IF; ifs++) {
                if (ifs >= MAX_IFS) {
                    return refuse(ROOM);
                }
                if (!parseIf(law)) {
                    return false;
                }
            }
            if (!parseSum(law, 0) || !take(';')) {
                return false;
            }
            into.emit(ANSWER);
            into.lawStart[law] = start;
            return true;
        }

        private boolean parseIf(int law) {
            boolean isAsked = take(WORD_IF) && parseSum(law, 0) && take('<') && parseSum(law, 0) && take(WORD_THEN);
            if (!isAsked) {
                return false;
            }
            into.emit(GO_ON_IF_LESS);
            int otherwise = into.codeSize;
            into.emit(0);
            if (!parseSum(law, 0) || !take(WORD_ELSE)) {
                return false;
            }
            into.emit(ANSWER);
            into.patch(otherwise, into.codeSize);
            return true;
        }

        private boolean parseSum(int law, int open) {
            boolean isGood = parseProduct(law, open);
            int sign = tokens.kindAt(at);
            for (int n = 0; n <= MAX_TOKENS && isGood && (sign == '+' || sign == '-'); n++) {
                isGood = take(sign) && parseProduct(law, open);
                into.emit(sign == '+' ? ADD : SUBTRACT);
                sign = tokens.kindAt(at);
            }
            return isGood;
        }

        private boolean parseProduct(int law, int open) {
            boolean isGood = parseUnit(law, open);
            int sign = tokens.kindAt(at);
            for (int n = 0; n <= MAX_TOKENS && isGood && (sign == '*' || sign == '/'); n++) {
                isGood = take(sign) && parseUnit(law, open);
                into.emit(sign == '*' ? MULTIPLY : DIVIDE);
                sign = tokens.kindAt(at);
            }
            return isGood;
        }

        private boolean parseUnit(int law, int open) {
            int kind = tokens.kindAt(at);
            if (kind == INT) {
                into.emit((int) tokens.valueAt(at));
                return take(kind);
            }
            if (kind >= WORD_RIPE && kind <= WORD_LEFT) {
                int asked = kind - WORD_RIPE;
                // A var that is not told for the law is 0 in it, and so is put as a plain 0.
                into.emit((TOLD_VARS[law] >> asked & 1) == 1 ? Text.varCell(asked) : 0);
                return take(kind);
            }
            if (kind != '(') {
                return refuse(SYNTAX);
            }
            if (open >= MAX_OPEN) {
                return refuse(ROOM);
            }
            return take(kind) && parseSum(law, open + 1) && take(')');
        }

        private boolean takeName() {
            if (!take(NAME)) {
                return false;
            }
            long name = tokens.valueAt(at - 1);
            for (int i = 0; i < nameCount; i++) {
                if (names[i] == name) {
                    markLater(TWICE);
                    return true;
                }
            }
            if (nameCount < names.length) {
                names[nameCount] = name;
                nameCount++;
            }
            return true;
        }

        private boolean takeNumber(int which, int least, int most) {
            if (!take(INT)) {
                return false;
            }
            int number = (int) tokens.valueAt(at - 1);
            if (!isWithin(number, least, most)) {
                markLater(WRONG);
            }
            if (isWithin(which, 0, numbers.length - 1)) {
                numbers[which] = number;
            }
            return true;
        }

        private boolean take(int kind) {
            if (tokens.kindAt(at) != kind) {
                return refuse(SYNTAX);
            }
            if (at >= MAX_TOKENS) {
                return refuse(ROOM);
            }
            at++;
            return true;
        }

        private boolean refuse(int number) {
            fault = number;
            return false;
        }

        private void markLater(int number) {
            if (laterFault == 0) {
                laterFault = number;
                laterFaultAt = tokens.startAt(at - 1);
            }
        }
    }

    /** Asks the laws of a text by the vars that were set ahead. */
    private static final class Laws {
        final int[] vars = new int[VARS];
        private final int[] stack = new int[MAX_STACK];

        void setHour(Text text, int hour, int left) {
            vars[HOUR] = hour;
            vars[LEFT] = left;
            vars[BLOWS] = told(text, WIND);
        }

        void setFruit(Text text, Ground ground, int fruit) {
            vars[RIPE] = ground.ripe[fruit];
            vars[HIGH] = text.high[fruit];
            vars[ACROSS] = text.hungAt[fruit];
            vars[SHAKEN] = ground.shaken[fruit];
            vars[PROPPED] = ground.propped[fruit];
            vars[LAY] = ground.lain[fruit];
        }

        void settleRests(Text text) {
            setHour(text, 0, text.fruits);
            for (int fruit = 0; fruit < text.fruits; fruit++) {
                vars[RIPE] = text.ripe[fruit];
                vars[HIGH] = text.high[fruit];
                vars[ACROSS] = text.hungAt[fruit];
                text.rests[fruit] = bounced(text, fruit);
            }
        }

        int bounced(Text text, int fruit) {
            return heldTo(text.hungAt[fruit] + told(text, BOUNCES), 0, MAX_X);
        }

        int told(Text text, int law) {
            return heldTo(worked(text, text.lawStart[law]), LEAST[law], MOST[law]);
        }

        private int worked(Text text, int start) {
            int at = start;
            int top = 0;
            // The code only goes forward, so it has answered before as many steps as there are cells.
            for (int step = 0; step < MAX_CODE; step++) {
                if (at < 0 || at + 1 >= MAX_CODE) {
                    return 0;
                }
                int cell = text.code[at];
                at++;
                if (cell >= -VARS) {
                    if (top >= MAX_STACK) {
                        return 0;
                    }
                    stack[top] = cell >= 0 ? cell : vars[-1 - cell];
                    top++;
                } else if (cell == ANSWER) {
                    return top >= 1 ? stack[top - 1] : 0;
                } else if (top < 2) {
                    return 0;
                } else if (cell == GO_ON_IF_LESS) {
                    top -= 2;
                    at = stack[top] < stack[top + 1] ? at + 1 : text.code[at];
                } else if (cell == DIVIDE && stack[top - 1] == 0) {
                    return 0;
                } else {
                    top--;
                    stack[top - 1] = joined(cell, stack[top - 1], stack[top]);
                }
            }
            return 0;
        }

        private static int joined(int cell, int left, int right) {
            switch (cell) {
                case ADD: return left + right;
                case SUBTRACT: return left - right;
                case MULTIPLY: return left * right;
                default: return right == 0 ? 0 : left / right;
            }
        }
    }

    /** All that goes on: how each fruit and buyer is in an hour. */
    private static final class Ground {
        static final int CELLS = 7 * MAX_FRUIT + 2 * MAX_BUYERS + 3;

        int hour = 0;
        int shakes = 0;
        int found = 0;
        final int[] ripe = new int[MAX_FRUIT];
        final int[] how = new int[MAX_FRUIT];
        final int[] owner = new int[MAX_FRUIT];
        final int[] lain = new int[MAX_FRUIT];
        final int[] propped = new int[MAX_FRUIT];
        final int[] shaken = new int[MAX_FRUIT];
        final int[] liesAt = new int[MAX_FRUIT];
        final int[] standsAt = new int[MAX_BUYERS];
        final int[] coins = new int[MAX_BUYERS];

        void begin(Text text) {
            hour = 0;
            shakes = 0;
            found = 0;
            System.arraycopy(text.ripe, 0, ripe, 0, MAX_FRUIT);
            Arrays.fill(how, HANGING);
            Arrays.fill(owner, NOBODY);
            Arrays.fill(lain, 0);
            Arrays.fill(propped, 0);
            Arrays.fill(shaken, 0);
            System.arraycopy(text.hungAt, 0, liesAt, 0, MAX_FRUIT);
            System.arraycopy(text.standsAt, 0, standsAt, 0, MAX_BUYERS);
            System.arraycopy(text.coins, 0, coins, 0, MAX_BUYERS);
        }

        void become(Ground other) {
            hour = other.hour;
            shakes = other.shakes;
            found = other.found;
            System.arraycopy(other.ripe, 0, ripe, 0, MAX_FRUIT);
            System.arraycopy(other.how, 0, how, 0, MAX_FRUIT);
            System.arraycopy(other.owner, 0, owner, 0, MAX_FRUIT);
            System.arraycopy(other.lain, 0, lain, 0, MAX_FRUIT);
            System.arraycopy(other.propped, 0, propped, 0, MAX_FRUIT);
            System.arraycopy(other.shaken, 0, shaken, 0, MAX_FRUIT);
            System.arraycopy(other.liesAt, 0, liesAt, 0, MAX_FRUIT);
            System.arraycopy(other.standsAt, 0, standsAt, 0, MAX_BUYERS);
            System.arraycopy(other.coins, 0, coins, 0, MAX_BUYERS);
        }

        void save(int[] cells, int from) {
            if (from < 0 || from > cells.length - CELLS) {
                return;
            }
            cells[from] = hour;
            cells[from + 1] = shakes;
            cells[from + 2] = found;
            int at = from + 3;
            for (int fruit = 0; fruit < MAX_FRUIT; fruit++) {
                cells[at] = ripe[fruit];
                cells[at + 1] = how[fruit];
                cells[at + 2] = owner[fruit];
                cells[at + 3] = lain[fruit];
                cells[at + 4] = propped[fruit];
                cells[at + 5] = shaken[fruit];
                cells[at + 6] = liesAt[fruit];
                at += 7;
            }
            System.arraycopy(standsAt, 0, cells, at, MAX_BUYERS);
            System.arraycopy(coins, 0, cells, at + MAX_BUYERS, MAX_BUYERS);
        }

        void load(int[] cells, int from) {
            if (from < 0 || from > cells.length - CELLS) {
                return;
            }
            hour = cells[from];
            shakes = cells[from + 1];
            found = cells[from + 2];
            int at = from + 3;
            for (int fruit = 0; fruit < MAX_FRUIT; fruit++) {
                ripe[fruit] = cells[at];
                how[fruit] = cells[at + 1];
                owner[fruit] = cells[at + 2];
                lain[fruit] = cells[at + 3];
                propped[fruit] = cells[at + 4];
                shaken[fruit] = cells[at + 5];
                liesAt[fruit] = cells[at + 6];
                at += 7;
            }
            System.arraycopy(cells, at, standsAt, 0, MAX_BUYERS);
            System.arraycopy(cells, at + MAX_BUYERS, coins, 0, MAX_BUYERS);
        }

        int bits(int wanted, int fruits) {
            int bits = 0;
            for (int fruit = 0; fruit < fruits && fruit < MAX_FRUIT; fruit++) {
                if (how[fruit] == wanted) {
                    bits |= 1 << fruit;
                }
            }
            return bits;
        }

        int howMany(int wanted, int fruits) {
            return Integer.bitCount(bits(wanted, fruits));
        }

        /** Who reaches x from nearest, of those who have the price. */
        int nearest(Text text, int x, int price) {
            int best = NOBODY;
            int least = MAX_REACH + 1;
            for (int buyer = 0; buyer < text.buyers; buyer++) {
                int far = Math.abs(standsAt[buyer] - x);
                if (far <= text.reach[buyer] && far < least && coins[buyer] >= price) {
                    least = far;
                    best = buyer;
                }
            }
            return best;
        }

        /** The first who stands just at x, of those who have the price. */
        int firstAt(Text text, int x, int price) {
            for (int buyer = 0; buyer < text.buyers; buyer++) {
                if (standsAt[buyer] == x && coins[buyer] >= price) {
                    return buyer;
                }
            }
            return NOBODY;
        }

        void sell(int fruit, int buyer, int price) {
            how[fruit] = SOLD;
            owner[fruit] = buyer;
            coins[buyer] -= price;
        }
    }

    /** Lets hours go by. */
    private static final class Clock {
        static final int SHAKE_LOTS = 1000000;
        private static final int LOTS_AN_HOUR = 16;
        private final Laws laws;

        Clock(Laws laws) {
            this.laws = laws;
        }

        /** A lot of 100. */
        static int lot(int seed, int which) {
            return (mixed(mixed(seed, 101), which) >>> 1) % 100;
        }

        private static int mixed(int h, int with) {
            int mixed = (h ^ with) * 1103515245 + 12345;
            return mixed ^ mixed >>> 15;
        }

        void passHour(Text text, Ground ground, int seed) {
            // Set once: the wind and how much hangs are asked as they were when the hour began.
            laws.setHour(text, ground.hour, ground.howMany(HANGING, text.fruits));
            for (int fruit = 0; fruit < text.fruits; fruit++) {
                if (ground.how[fruit] == LYING) {
                    sellOrKeep(text, ground, fruit);
                }
            }
            for (int fruit = 0; fruit < text.fruits; fruit++) {
                if (ground.how[fruit] == HANGING) {
                    laws.setFruit(text, ground, fruit);
                    if (lot(seed, LOTS_AN_HOUR * ground.hour + fruit) < laws.told(text, FALLS)) {
                        letFall(text, ground, fruit);
                    } else {
                        ground.ripe[fruit] = heldTo(ground.ripe[fruit] + laws.told(text, RIPENS), 0, MAX_RIPE);
                    }
                }
            }
            ground.hour++;
            Arrays.fill(ground.shaken, 0);
        }

        private void sellOrKeep(Text text, Ground ground, int fruit) {
            laws.setFruit(text, ground, fruit);
            int price = laws.told(text, WORTH);
            int buyer = ground.firstAt(text, ground.liesAt[fruit], price);
            if (buyer >= 0) {
                ground.sell(fruit, buyer, price);
                return;
            }
            ground.lain[fruit]++;
            if (ground.lain[fruit] > text.keeps) {
                ground.how[fruit] = ROTTEN;
            }
        }

        private void letFall(Text text, Ground ground, int fruit) {
            int price = laws.told(text, WORTH);
            int buyer = ground.nearest(text, text.hungAt[fruit], price);
            if (buyer >= 0) {
                ground.sell(fruit, buyer, price);
            } else {
                ground.how[fruit] = LYING;
                ground.liesAt[fruit] = laws.bounced(text, fruit);
            }
        }
    }

    /** What would be in the next hours by the odds, how much hangs staying as it is now. */
    private static final class Outlook {
        /** Of the fruit looked at last: its odds of 100, and its worth, hour by hour. */
        final int[] falls = new int[MAX_ODDS_HOURS];
        private final int[] worth = new int[MAX_ODDS_HOURS];
        /** By fruit: what is caught of it in the mean, times 100 as often as there are hours. */
        final long[] weights = new long[MAX_FRUIT];
        private final Laws laws;

        Outlook(Laws laws) {
            this.laws = laws;
        }

        void lookAhead(Text text, Ground ground, int fruit, int hours, int propped) {
            int left = ground.howMany(HANGING, text.fruits);
            int ripe = ground.ripe[fruit];
            for (int hour = 0; hour < hours && hour < MAX_ODDS_HOURS; hour++) {
                laws.setHour(text, ground.hour + hour, left);
                laws.setFruit(text, ground, fruit);
                laws.vars[RIPE] = ripe;
                laws.vars[SHAKEN] = hour == 0 ? ground.shaken[fruit] : 0;
                laws.vars[PROPPED] = propped;
                falls[hour] = laws.told(text, FALLS);
                worth[hour] = laws.told(text, WORTH);
                ripe = heldTo(ripe + laws.told(text, RIPENS), 0, MAX_RIPE);
            }
        }

        void weighCatches(Text text, Ground ground, int hours) {
            for (int fruit = 0; fruit < text.fruits; fruit++) {
                weights[fruit] = 0;
                if (ground.how[fruit] == HANGING) {
                    lookAhead(text, ground, fruit, hours, ground.propped[fruit]);
                    weights[fruit] = meanWorth(hours);
                }
            }
        }

        private long meanWorth(int hours) {
            long hangs = 1;
            long sum = 0;
            for (int hour = 0; hour < hours && hour < MAX_ODDS_HOURS; hour++) {
                sum = sum * SURELY + hangs * falls[hour] * worth[hour];
                hangs *= SURELY - falls[hour];
            }
            return sum;
        }

        /** How likely it falls in the m-th hour, times 100 m times. */
        long fallsInHour(Text text, Ground ground, int fruit, int m, int propped) {
            lookAhead(text, ground, fruit, m, propped);
            long likely = 1;
            for (int hour = 0; hour < m - 1 && hour < MAX_ODDS_HOURS; hour++) {
                likely *= SURELY - falls[hour];
            }
            return m >= 1 && m <= MAX_ODDS_HOURS ? likely * falls[m - 1] : 0;
        }

        /** The amount was multiplied by 100 so many times as hours; one time stays in it. */
        static int inHundredths(long amount, int hours) {
            long rest = amount;
            for (int hour = 1; hour < hours; hour++) {
                rest /= SURELY;
            }
            return (int) rest;
        }
    }

    /** The last things done, as how all was ahead of them. */
    private static final class Trail {
        private final int[] cells = new int[MAX_UNDO * Ground.CELLS];
        private int oldest = 0;
        int size = 0;

        void clear() {
            oldest = 0;
            size = 0;
        }

        void remember(Ground ground) {
            if (size == MAX_UNDO) {
                oldest = (oldest + 1) % MAX_UNDO;
                size--;
            }
            ground.save(cells, (oldest + size) % MAX_UNDO * Ground.CELLS);
            size++;
        }

        boolean stepBack(Ground ground) {
            if (size == 0) {
                return false;
            }
            size--;
            ground.load(cells, (oldest + size) % MAX_UNDO * Ground.CELLS);
            return true;
        }
    }

    /**
     * Unknown fruit that lies there. A fruit fits those told alike (one height, one x) and no others, so
     * each such group has its fruit to itself, and all fruit of a group can stand for each one told in it
     * in as many rows: nothing need be tried out.
     */
    private static final class Told {
        private final int[] high = new int[MAX_TOLD];
        private final int[] x = new int[MAX_TOLD];
        int size = 0;

        int add(int toldHigh, int toldX) {
            if (size >= MAX_TOLD) {
                return NONE;
            }
            high[size] = toldHigh;
            x[size] = toldX;
            size++;
            return size - 1;
        }

        int rowCount(Text text, int known) {
            int product = 1;
            for (int i = 0; i < known && i < MAX_TOLD; i++) {
                int free = fitting(text, i) - alikeAhead(i);
                if (free <= 0) {
                    return 0;
                }
                product *= free;
            }
            return product;
        }

        /** How much fruit of the text it can be, by itself. */
        int fitting(Text text, int i) {
            int fits = 0;
            for (int fruit = 0; fruit < text.fruits; fruit++) {
                if (isFit(text, fruit, i)) {
                    fits++;
                }
            }
            return fits;
        }

        int firstFitting(Text text, int i) {
            for (int fruit = 0; fruit < text.fruits; fruit++) {
                if (isFit(text, fruit, i)) {
                    return fruit;
                }
            }
            return NOBODY;
        }

        /** Once one is known, the rows are divided by how much fruit it could be: most of it leaves fewest rows. */
        int widest(Text text, int known) {
            int best = 0;
            for (int i = 1; i < known && i < MAX_TOLD; i++) {
                if (fitting(text, i) > fitting(text, best)) {
                    best = i;
                }
            }
            return best;
        }

        private boolean isFit(Text text, int fruit, int i) {
            return text.high[fruit] == high[i] && text.rests[fruit] == x[i];
        }

        private int alikeAhead(int i) {
            int alike = 0;
            for (int j = 0; j < i; j++) {
                if (high[j] == high[i] && x[j] == x[i]) {
                    alike++;
                }
            }
            return alike;
        }
    }
}
