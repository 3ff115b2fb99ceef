/** Part IV of the terms and promises 29 to 33: 7 told at most, k 0, no rows, this or that one, of alike ones the first. */
public final class ToldEdgeTest {
    private static final int GREATEST = Integer.MAX_VALUE;
    private static final int LEAST = Integer.MIN_VALUE;
    private static final String SEVEN = "fruit a 1 1 1;fruit b 1 1 1;fruit c 1 1 1;fruit d 1 1 1;fruit e 1 1 1;fruit f 1 1 1;fruit g 1 1 1;";

    public static void main(String[] args) {
        toldUpTo7();
        toldWithinHighAndX();
        forgotten();
        knownByK();
        anotherFruitForEach();
        moreToldThanFruit();
        wouldLieWithin0And9();
        asTheTextBegins();
        sureOfOne();
        sureOfNoRows();
        sureOfNoSuch();
        askFirstOfAlike();
        askFewestRows();
        askOfNoRows();
        askOfNoSuch();
        staysToldWhateverIsDone();
        Check.end("ToldEdgeTest");
    }

    /** "7 at most, numbered from 0 on"; "NONE, and nothing happens: 7 are there". */
    private static void toldUpTo7() {
        FallMarket m = new FallMarket();
        for (int i = 0; i < 7; i++) {
            Check.due("told so far", i, m.count(10));
            Check.due("tell " + i, i, m.tell(1 + i, i));
        }
        for (int n = 0; n < 3; n++) {
            Check.due("an eighth", -1, m.tell(1, 1));
            Check.due("told", 7, m.count(10));
        }
        Check.due("an eighth that is none", -1, m.tell(0, 1));
        // The seven are as they were told: fruit that fits each of them.
        m = Check.of(SEVEN);
        for (int i = 0; i < 7; i++) {
            m.tell(1, 1);
        }
        m.tell(9, 9);
        Check.due("rows(7)", 5040, m.rows(7));
        Check.due("rows(8)", -1, m.rows(8));
    }

    /** "HIGH so much (1 .. 9 ..), lies at X": "NONE, and nothing happens: .. no such ones". */
    private static void toldWithinHighAndX() {
        int[] some = {LEAST, -1, 0, 1, 5, 9, 10, 11, GREATEST};
        for (int high : some) {
            for (int x : some) {
                FallMarket m = new FallMarket();
                boolean isGood = high >= 1 && high <= 9 && x >= 0 && x <= 9;
                Check.due("tell(" + high + ", " + x + ")", isGood ? 0 : -1, m.tell(high, x));
                Check.due("told", isGood ? 1 : 0, m.count(10));
                Check.due("no thing done", 0, m.count(9));
            }
        }
    }

    /** "All that was TOLD is forgotten: how many there were." */
    private static void forgotten() {
        FallMarket m = Check.of(SEVEN);
        Check.due("forget none", 0, m.forget());
        for (int many = 1; many <= 7; many++) {
            for (int i = 0; i < many; i++) {
                Check.due("tell, numbered anew", i, m.tell(9, 9));
            }
            Check.due("forget " + many, many, m.forget());
            Check.due("told", 0, m.count(10));
            Check.due("rows(1)", -1, m.rows(1));
            Check.due("rows(0)", 1, m.rows(0));
            Check.due("forget again", 0, m.forget());
        }
        m.tell(1, 1);
        Check.due("what was forgotten does not count", 7, m.rows(1));
    }

    /** "KNOWN by k: the first k": 0 is one row, more than told is no such k. */
    private static void knownByK() {
        FallMarket m = Check.of(SEVEN);
        Check.due("rows(0)", 1, m.rows(0));
        Check.due("rows(1), nothing told", -1, m.rows(1));
        int rows = 1;
        for (int k = 1; k <= 7; k++) {
            m.tell(1, 1);
            rows *= 8 - k;
            Check.due("rows(" + k + ")", rows, m.rows(k));
            Check.due("rows(" + (k + 1) + ")", -1, m.rows(k + 1));
            Check.due("rows(0)", 1, m.rows(0));
        }
        int[] none = {LEAST, -1, 8, GREATEST};
        for (int k : none) {
            Check.due("rows(" + k + ")", -1, m.rows(k));
        }
        // The first k only: what is told behind them does not count.
        m = Check.of("fruit a 1 1 1; fruit b 2 2 2;");
        m.tell(1, 1);
        m.tell(5, 5);
        Check.due("rows(1)", 1, m.rows(1));
        Check.due("rows(2)", 0, m.rows(2));
        Check.due("rows(0) of a new object", 1, new FallMarket().rows(0));
    }

    /** "another FRUIT of the text for each KNOWN". */
    private static void anotherFruitForEach() {
        FallMarket m = Check.of("fruit a 1 1 1; fruit b 1 1 1; fruit c 1 2 1;");
        m.tell(1, 1);
        m.tell(2, 1);
        m.tell(1, 1);
        Check.due("2 for the first", 2, m.rows(1));
        Check.due("1 for the second", 2, m.rows(2));
        Check.due("1 left for the third", 2, m.rows(3));
        m.tell(1, 1);
        Check.due("none left for a fourth", 0, m.rows(4));
        Check.due("3 are as they were", 2, m.rows(3));
    }

    private static void moreToldThanFruit() {
        FallMarket m = new FallMarket();
        m.tell(1, 1);
        Check.due("no fruit, rows(0)", 1, m.rows(0));
        Check.due("no fruit, rows(1)", 0, m.rows(1));
        m = Check.of("fruit a 1 1 1;");
        for (int i = 0; i < 7; i++) {
            m.tell(1, 1);
            Check.due("one fruit, rows(" + (i + 1) + ")", i == 0 ? 1 : 0, m.rows(i + 1));
        }
    }

    /** "that would lie there": held to 0 .. 9; "HIGH so much": one more or less does not fit. */
    private static void wouldLieWithin0And9() {
        FallMarket m = Check.of("fruit a 8 3 1; bounces=5;");
        for (int x = 0; x <= 9; x++) {
            m.forget();
            m.tell(3, x);
            Check.due("from 8 by 5, at " + x, x == 9 ? 1 : 0, m.rows(1));
        }
        m = Check.of("fruit a 2 3 1; bounces=0-5;");
        for (int x = 0; x <= 9; x++) {
            m.forget();
            m.tell(3, x);
            Check.due("from 2 by -5, at " + x, x == 0 ? 1 : 0, m.rows(1));
        }
        for (int high = 1; high <= 9; high++) {
            m.forget();
            m.tell(high, 0);
            Check.due("high 3, told " + high, high == 3 ? 1 : 0, m.rows(1));
        }
        // Somebody who would catch it does not count, nor whether it falls at all.
        m = Check.of("fruit a 2 3 1; bounces=3; falls=0; buyer b 2 3 999;");
        m.tell(3, 5);
        Check.due("though it would be caught", 1, m.rows(1));
    }

    /** "if it fell as the text begins": by hour 0, all hanging, ripe as told, whatever has gone on. */
    private static void asTheTextBegins() {
        FallMarket m = Check.of("fruit a 2 3 1; fruit b 2 4 2; falls=if ripe<4 then 0 else 100; bounces=ripe+left*2+hour-lay-shaken-propped-blows; wind=9;");
        m.tell(3, 7);
        m.tell(4, 8);
        Check.due("rows(2)", 1, m.rows(2));
        m.prop(0, true);
        m.shake(0);
        m.hours(5);
        Check.due("none hangs", 0, m.count(4));
        Check.due("rows(2) later", 1, m.rows(2));
        Check.due("sure(2, 0)", 0, m.sure(2, 0));
        Check.due("sure(2, 1)", 1, m.sure(2, 1));
        // By 0 in the law it does not bounce.
        m = Check.of("fruit a 2 3 1; bounces=5/hour;");
        m.hours(1);
        m.tell(3, 2);
        Check.due("divided by hour 0", 1, m.rows(1));
    }

    /** "which FRUIT the i-th is in all of them"; "-2: this or that one". */
    private static void sureOfOne() {
        FallMarket m = Check.of("fruit a 1 1 1; fruit b 2 2 1; fruit c 2 2 1; fruit d 9 9 1;");
        m.tell(9, 9);
        m.tell(2, 2);
        m.tell(1, 1);
        m.tell(2, 2);
        Check.due("d", 3, m.sure(1, 0));
        Check.due("b or c", -2, m.sure(2, 1));
        Check.due("a", 0, m.sure(3, 2));
        // Both are there, but which is which is not known.
        Check.due("b or c, both told", -2, m.sure(4, 1));
        Check.due("b or c, both told", -2, m.sure(4, 3));
        Check.due("d still", 3, m.sure(4, 0));
        m = Check.of(SEVEN);
        m.tell(1, 1);
        Check.due("any of seven", -2, m.sure(1, 0));
    }

    /** "-2: .. no ROWS": even of one that fits one fruit only. */
    private static void sureOfNoRows() {
        FallMarket m = Check.of("fruit a 1 1 1; fruit b 2 2 1;");
        m.tell(1, 1);
        m.tell(3, 3);
        Check.due("one row", 0, m.sure(1, 0));
        Check.due("no rows, 0", -2, m.sure(2, 0));
        Check.due("no rows, 1", -2, m.sure(2, 1));
        m = Check.of("fruit a 1 1 1; fruit b 2 2 1;");
        m.tell(2, 2);
        m.tell(1, 1);
        m.tell(1, 1);
        Check.due("two rows told alike, one fruit", -2, m.sure(3, 0));
        Check.due("ahead of it", 1, m.sure(2, 0));
    }

    /** "(i 0 .. k less 1) .. NONE: no such ones". */
    private static void sureOfNoSuch() {
        FallMarket m = Check.of(SEVEN);
        Check.due("sure(0, 0)", -1, m.sure(0, 0));
        for (int n = 0; n < 7; n++) {
            m.tell(1, 1);
        }
        for (int k = 0; k <= 7; k++) {
            int[] odd = {LEAST, -1, k, k + 1, GREATEST};
            for (int i : odd) {
                Check.due("sure(" + k + ", " + i + ")", -1, m.sure(k, i));
            }
            if (k > 0) {
                Check.due("sure(" + k + ", 0)", -2, m.sure(k, 0));
                Check.due("sure(" + k + ", " + (k - 1) + ")", -2, m.sure(k, k - 1));
            }
        }
        int[] ks = {LEAST, -1, 8, 9, GREATEST};
        for (int k : ks) {
            Check.due("sure(" + k + ", 0)", -1, m.sure(k, 0));
            Check.due("sure(" + k + ", -1)", -1, m.sure(k, -1));
        }
    }

    /** "of alike ones the first". */
    private static void askFirstOfAlike() {
        FallMarket m = Check.of(SEVEN);
        for (int k = 1; k <= 7; k++) {
            m.tell(1, 1);
            Check.due("ask(" + k + ")", 0, m.ask(k));
        }
        m = Check.of("fruit a 1 1 1; fruit b 2 2 1; fruit c 3 3 1;");
        for (int i = 3; i >= 1; i--) {
            m.tell(i, i);
        }
        Check.due("all sure: the first", 0, m.ask(3));
        m = Check.of("fruit a 1 1 1; fruit b 1 1 1; fruit c 3 3 1; fruit d 3 3 1;");
        m.tell(3, 3);
        m.tell(1, 1);
        Check.due("two and two: the first", 0, m.ask(2));
    }

    /** "of which, once it is known which it is, fewest ROWS are left, at worst". */
    private static void askFewestRows() {
        FallMarket m = Check.of("fruit a 1 1 1; fruit b 2 2 1; fruit c 2 2 1; fruit d 3 3 1; fruit e 3 3 1; fruit f 3 3 1;");
        m.tell(1, 1);
        m.tell(2, 2);
        m.tell(3, 3);
        m.tell(2, 2);
        m.tell(3, 3);
        int[] due = {-2, 0, 1, 2, 2, 2};
        for (int k = 0; k <= 5; k++) {
            Check.due("ask(" + k + ")", due[k], m.ask(k));
        }
    }

    /** "-2: k 0, no ROWS". */
    private static void askOfNoRows() {
        FallMarket m = Check.of("fruit a 1 1 1;");
        Check.due("k 0, nothing told", -2, m.ask(0));
        m.tell(1, 1);
        Check.due("k 0", -2, m.ask(0));
        Check.due("k 1", 0, m.ask(1));
        m.tell(1, 1);
        Check.due("no rows", -2, m.ask(2));
        Check.due("k 1 still", 0, m.ask(1));
        Check.due("k 0 of a new object", -2, new FallMarket().ask(0));
    }

    /** "NONE: no such k". */
    private static void askOfNoSuch() {
        FallMarket m = Check.of(SEVEN);
        for (int told = 0; told <= 7; told++) {
            int[] odd = {LEAST, -1, told + 1, 8, GREATEST};
            for (int k : odd) {
                Check.due("ask(" + k + "), told " + told, -1, m.ask(k));
                Check.due("rows(" + k + "), told " + told, -1, m.rows(k));
            }
            m.tell(1, 1);
        }
    }

    /** What is TOLD goes by forget and by a text alone. */
    private static void staysToldWhateverIsDone() {
        FallMarket m = Check.of("fruit a 1 1 1; buyer b 1 0 9; falls=100;");
        m.hold(0);
        m.tell(1, 1);
        m.hours(2);
        m.undo();
        m.go(0, 3);
        m.restore(0);
        Check.type(m, "?");
        Check.due("a faulty text", 1, m.read());
        Check.due("told still", 1, m.count(10));
        Check.due("rows", 1, m.rows(1));
        Check.due("tell: numbered on", 1, m.tell(2, 2));
        Check.due("a text", 0, m.read());
        Check.due("nothing is told", 0, m.count(10));
        Check.due("rows(1)", -1, m.rows(1));
    }
}
