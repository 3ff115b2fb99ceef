/**
 * Part II of the terms as far as laws and lots go, and promises 8 and 20: ints that wrap, divisions, what each
 * law is held to, vars that are not told, lots.
 */
public final class LawEdgeTest {
    private static final int GREATEST = Integer.MAX_VALUE;
    private static final int LEAST = Integer.MIN_VALUE;
    private static final String[] VARS = {"ripe", "high", "hour", "blows", "across", "shaken", "propped", "lay", "left"};

    public static void main(String[] args) {
        sumsWrap();
        productsWrap();
        dividedTowards0();
        dividedBy0();
        lookedAtOnly();
        oneLessThanTheOther();
        firstIfThatHolds();
        windHeld();
        ripensHeld();
        fallsHeld();
        worthHeld();
        bouncesHeld();
        foundHeld();
        lotTable();
        fallsByLessThanItsOdds();
        foundByLessThanItsOdds();
        lotsOfShakesGoOn();
        lotsOfLateHours();
        varsNotTold();
        acrossLyingOrNot();
        tellsOfNoSuch();
        windOfHours();
        Check.end("LawEdgeTest");
    }

    /** An E that is just n: what it is made of wraps if need be. */
    private static String number(int n) {
        return "((" + (n >>> 24) + "*4096+" + (n >>> 12 & 4095) + ")*4096+" + (n & 4095) + ")";
    }

    /** The E is n: neither less nor more. */
    private static void is(String e, int n) {
        FallMarket m = Check.of("fruit a 4 6 12; worth = if " + e + " < " + number(n) + " then 1 else if " + number(n) + " < " + e
            + " then 2 else 7;");
        Check.due(e + " is " + n, 7, m.tells(0, 2));
    }

    private static int worth(String law) {
        return Check.of("fruit a 4 6 12; worth = " + law + ";").tells(0, 2);
    }

    /** "ints of 32 bits that wrap": + and -. */
    private static void sumsWrap() {
        is("0", 0);
        is("9999", 9999);
        is("0-1", -1);
        is(number(GREATEST) + "+1", LEAST);
        is(number(LEAST) + "-1", GREATEST);
        is(number(GREATEST) + "+" + number(GREATEST), -2);
        is(number(LEAST) + "+" + number(LEAST), 0);
        is("0-" + number(LEAST), LEAST);
        is("1-" + number(LEAST), LEAST + 1);
        is("0-" + number(GREATEST), -GREATEST);
        // What wraps is then held: the greatest and 1 is far below 0.
        Check.due("worth of the greatest", 99, worth(number(GREATEST)));
        Check.due("worth of the greatest and 1", 0, worth(number(GREATEST) + "+1"));
        Check.due("worth of the least less 1", 99, worth(number(LEAST) + "-1"));
    }

    /** "ints of 32 bits that wrap": *. */
    private static void productsWrap() {
        is("9999*9999", 99980001);
        is("(256*256)*(128*256)", LEAST);
        is("(256*256)*(256*256)", 0);
        is("(9999*4+6345)*(9999*4+6345)", 46341 * 46341);
        is(number(46340) + "*" + number(46340), 2147395600);
        is(number(46341) + "*" + number(46341), -2147479015);
        is(number(GREATEST) + "*2", -2);
        is(number(GREATEST) + "*" + number(GREATEST), 1);
        is(number(LEAST) + "*(0-1)", LEAST);
        is(number(LEAST) + "*" + number(LEAST), 0);
        is("9999*9999*9999*9999", 1089432001);
    }

    /** "/ rounded towards 0". */
    private static void dividedTowards0() {
        is("7/2", 3);
        is("(0-7)/2", -3);
        is("7/(0-2)", -3);
        is("(0-7)/(0-2)", 3);
        is("1/2", 0);
        is("(0-1)/2", 0);
        is("0/5", 0);
        is("9999/9999", 1);
        is("9998/9999", 0);
        is(number(GREATEST) + "/2", 1073741823);
        is(number(LEAST) + "/2", -1073741824);
        is("(0-" + number(GREATEST) + ")/2", -1073741823);
        is(number(LEAST) + "/(0-1)", LEAST);
        is(number(GREATEST) + "/" + number(LEAST), 0);
        is(number(LEAST) + "/" + number(GREATEST), -1);
    }

    /** "a LAW in which something that is looked at is divided by 0 is 0": all of it, wherever it stands. */
    private static void dividedBy0() {
        String[] laws = {"1/0", "0/0", "9+1/0", "1/0+9", "9-1/0", "9*(1/0)", "1/0*9", "(9+(1/0))", "9/(5/(3-3))", "9+0/(ripe-12)",
            "5/((256*256)*(256*256))", "9-0/(high-6)", "3/hour", "3/(1/2)"};
        for (String law : laws) {
            Check.due("worth = " + law, 0, worth(law));
            Check.due("then " + law, 0, worth("if 1<2 then " + law + " else 9"));
            Check.due("else " + law, 0, worth("if 2<1 then 9 else " + law));
            Check.due("if " + law + " <", 0, worth("if " + law + "<1 then 9 else 8"));
            Check.due("if < " + law, 0, worth("if 1<" + law + " then 9 else 8"));
        }
        // Each law is 0, not what it is if not told; ripens would be 1, falls and worth ripe.
        FallMarket m = Check.of("fruit a 4 6 12; wind=1/0; ripens=1/0; falls=1/0; worth=1/0; bounces=1/0; found=100/0;");
        for (int what = 0; what < 4; what++) {
            Check.due("tells(0, " + what + ")", 0, m.tells(0, what));
        }
        Check.due("wind", 0, m.count(3));
        Check.due("not found", 0, m.shake(0));
        // Not in one hour, but in another.
        m = Check.of("fruit a 4 6 12; falls=0; worth = 8/(hour-2);");
        Check.due("in hour 0", 0, m.tells(0, 2));
        m.hours(2);
        Check.due("by 0 in hour 2", 0, m.tells(0, 2));
        m.hours(1);
        Check.due("in hour 3", 8, m.tells(0, 2));
    }

    /** "something that is looked at": what is not, may be divided by 0. */
    private static void lookedAtOnly() {
        Check.due("an E that does not hold", 5, worth("if 2<1 then 1/0 else 5"));
        Check.due("the last one", 5, worth("if 1<2 then 5 else 1/0"));
        Check.due("a later if", 5, worth("if 1<2 then 5 else if 1/0<1 then 6 else 7"));
        Check.due("a later if, its other side", 5, worth("if 1<2 then 5 else if 1<1/0 then 6 else 7"));
        Check.due("a later then", 5, worth("if 1<2 then 5 else if 1<2 then 1/0 else 7"));
        Check.due("the fourth if", 5, worth("if 2<1 then 1/0 else if 2<1 then 1/0 else if 1<2 then 5 else if 1/0<1 then 6 else 7"));
        Check.due("the fourth if is looked at", 0, worth("if 2<1 then 1 else if 2<1 then 2 else if 2<1 then 5 else if 1/0<1 then 6 else 7"));
        Check.due("the other side, looked at too", 0, worth("if 2<1/0 then 1 else 2"));
    }

    /** "one less than the other": alike ones do not hold. */
    private static void oneLessThanTheOther() {
        Check.due("11 < 12", 1, worth("if 11 < ripe then 1 else 2"));
        Check.due("12 < 12", 2, worth("if 12 < ripe then 1 else 2"));
        Check.due("13 < 12", 2, worth("if 13 < ripe then 1 else 2"));
        Check.due("the least < the greatest", 1, worth("if " + number(LEAST) + "<" + number(GREATEST) + " then 1 else 2"));
        Check.due("the greatest < the least", 2, worth("if " + number(GREATEST) + "<" + number(LEAST) + " then 1 else 2"));
        Check.due("-1 < 0", 1, worth("if 0-1<0 then 1 else 2"));
        Check.due("0 < -1", 2, worth("if 0<0-1 then 1 else 2"));
    }

    /** "the E of the first if that holds, else the last one": each of four, and none. */
    private static void firstIfThatHolds() {
        int[] ripe = {0, 9, 10, 19, 20, 29, 30, 39, 40, 99};
        for (int i = 0; i < ripe.length; i++) {
            FallMarket m = Check.of("fruit a 4 6 " + ripe[i]
                + "; worth = if ripe<10 then 11 else if ripe<20 then 22 else if ripe<30 then 33 else if ripe<40 then 44 else 55;");
            Check.due("ripe " + ripe[i], 11 * (i / 2 + 1), m.tells(0, 2));
        }
        Check.due("all hold: the first", 11, worth("if 1<2 then 11 else if 1<2 then 22 else if 1<2 then 33 else if 1<2 then 44 else 55"));
    }

    private static void held(String law, int what, int least, int most) {
        int[] some = {least - 1, least, least + 1, 0, most - 1, most, most + 1, 9999, -9999, GREATEST, LEAST};
        for (int n : some) {
            FallMarket m = Check.of("fruit a 4 6 12;" + law + "=" + number(n) + ";");
            int due = Math.max(least, Math.min(most, n));
            Check.due(law + " of " + n, due, what < 0 ? m.count(3) : m.tells(0, what));
        }
    }

    /** "WIND, held to 0 .. 9". */
    private static void windHeld() {
        held("wind", -1, 0, 9);
        // Other laws ask for it as it is held.
        Check.due("blows", 9, Check.of("fruit a 4 6 12; wind=50; falls=blows;").tells(0, 0));
        Check.due("blows", 0, Check.of("fruit a 4 6 12; wind=0-50; falls=blows;").tells(0, 0));
    }

    /** "RIPENS, held to -9 .. 9". */
    private static void ripensHeld() {
        held("ripens", 1, -9, 9);
    }

    /** "FALLS, held to 0 .. 100". */
    private static void fallsHeld() {
        held("falls", 0, 0, 100);
    }

    /** "WORTH, held to 0 .. 99". */
    private static void worthHeld() {
        held("worth", 2, 0, 99);
    }

    /** "BOUNCES, held to -9 .. 9". */
    private static void bouncesHeld() {
        held("bounces", 3, -9, 9);
    }

    /** "FOUND, held to 0 .. 100": by seed 68 the first lot of a shake is 0, by seed 83 it is 99. */
    private static void foundHeld() {
        int[] some = {LEAST, -9999, -1, 0, 1, 99, 100, 101, 9999, GREATEST};
        for (int n : some) {
            String law = "fruit a 4 6 12; found=" + number(n) + "; seed ";
            Check.due("lot 0, found " + n, n > 0 ? 1 : 0, Check.of(law + "68;").shake(0));
            Check.due("lot 99, found " + n, n > 99 ? 1 : 0, Check.of(law + "83;").shake(0));
        }
    }

    /** "LOT n of a SEED and a which": lots of 100 worked out outside of Java. */
    private static void lotTable() {
        int[] which = {0, 1, 6, 16, 22, 767, 758, 16000, 1000000, 1000001, 1000511};
        int[][] lots = {
            {0, 42, 55, 83, 51, 30, 36, 62, 59, 73, 59, 43},
            {1, 39, 13, 10, 96, 97, 3, 7, 52, 20, 89, 81},
            {77, 25, 51, 9, 62, 9, 22, 84, 65, 57, 32, 53},
            {4242, 83, 26, 29, 48, 76, 44, 86, 45, 18, 22, 65},
            {9999, 51, 58, 21, 74, 78, 40, 25, 49, 70, 11, 83},
            {10018, 45, 32, 70, 18, 33, 77, 76, 83, 37, 60, 52}};
        for (int[] row : lots) {
            for (int i = 0; i < which.length; i++) {
                Check.due("lot of " + row[0] + " and " + which[i], row[i + 1], HourTest.lot(row[0], which[i]));
            }
            if (row[0] <= 9999) {
                lotsOfSeed(row);
            }
        }
    }

    /** Fruit 0, 1 and 6 in hour 0, fruit 0 and 6 in hour 1, fruit 6 in hour 47: each at its lot and one more. */
    private static void lotsOfSeed(int[] row) {
        int[] hours = {0, 0, 0, 1, 1, -1, 47};
        int[] fruits = {0, 1, 6, 0, 6, -1, 6};
        for (int i = 0; i < hours.length; i++) {
            for (int more = 0; more < 2 && hours[i] >= 0; more++) {
                String text = "seed " + row[0] + "; ripens = 0; falls = if hour < " + hours[i] + " then 0 else " + (row[i + 1] + more) + ";";
                for (int f = 0; f < 7; f++) {
                    text += "fruit " + (char) ('a' + f) + " 1 1 1;";
                }
                Check.due("seed " + row[0] + ", hour " + hours[i] + ", fruit " + fruits[i] + ", falls " + (row[i + 1] + more), more,
                    Check.of(text).then(fruits[i], hours[i] + 1, 0));
            }
        }
    }

    /** "it FALLS if LOT 100 .. is less than FALLS tells": 0 never, 100 always, at the lot itself not. */
    private static void fallsByLessThanItsOdds() {
        // Lots of fruit 0 in hour 0: seed 35 has 0, seed 155 has 1, seed 40 has 98, seed 206 has 99.
        int[] seeds = {35, 155, 40, 206};
        int[] lots = {0, 1, 98, 99};
        int[] odds = {0, 1, 2, 98, 99, 100};
        for (int i = 0; i < seeds.length; i++) {
            for (int falls : odds) {
                FallMarket m = Check.of("fruit a 4 6 12; seed " + seeds[i] + "; falls=" + falls + ";");
                m.hours(1);
                Check.due("lot " + lots[i] + ", falls " + falls, lots[i] < falls ? 1 : 0, m.fruit(0, 3));
            }
        }
    }

    /** "if LOT 100 .. is less than FOUND, as told behind it": the shake itself is among those in all. */
    private static void foundByLessThanItsOdds() {
        // Lots of the first shake: seed 68 has 0, seed 149 has 1, seed 5 has 98, seed 83 has 99.
        int[] seeds = {68, 149, 5, 83};
        int[] lots = {0, 1, 98, 99};
        int[] odds = {0, 1, 2, 98, 99, 100};
        for (int i = 0; i < seeds.length; i++) {
            for (int found : odds) {
                FallMarket m = Check.of("fruit a 4 6 12; fine 7; seed " + seeds[i] + "; found=" + found + ";");
                int due = lots[i] < found ? 1 : 0;
                Check.due("lot " + lots[i] + ", found " + found, due, m.shake(0));
                Check.due("how often found out", due, m.count(13));
                Check.due("fines", 7 * due, m.count(14));
            }
        }
        // Behind the first shake it is 1 in all, though none was ahead.
        Check.due("found by shaken", 1, Check.of("fruit a 4 6 12; seed 83; found=shaken*100;").shake(0));
        Check.due("not by shaken less 1", 0, Check.of("fruit a 4 6 12; seed 68; found=(shaken-1)*100;").shake(0));
    }

    /** "1,000,000 and how often FRUIT was SHAKEN ahead, in all": by any fruit, and not by this hour alone. */
    private static void lotsOfShakesGoOn() {
        for (int more = 0; more < 2; more++) {
            // By seed 77 the second lot of a shake is 32, by seed 4242 it is 22.
            FallMarket m = Check.of("fruit a 4 6 12; fruit b 4 6 12; falls=0; seed 77; found=if shaken<2 then 0 else " + (32 + more) + ";");
            m.shake(0);
            Check.due("second lot, another fruit", more, m.shake(1));
            m = Check.of("fruit a 4 6 12; falls=0; seed 4242; found=if shaken<2 then 0 else " + (22 + more) + ";");
            m.shake(0);
            m.hours(5);
            Check.due("second lot, another hour", more, m.shake(0));
            m = Check.of("fruit a 4 6 12; falls=0; seed 4242; found=if shaken<2 then 0 else " + (22 + more) + ";");
            m.shake(0);
            m.undo();
            m.shake(0);
            Check.due("second lot, the first undone once", more, m.shake(0));
        }
        // The 500th of them: 512 calls are not too many.
        for (int more = 0; more < 2; more++) {
            int lot = HourTest.lot(9, 1000499);
            FallMarket m = Check.of("fruit a 4 6 12; falls=0; seed 9; found=if shaken<500 then 0 else " + (lot + more) + ";");
            int found = 0;
            for (int n = 0; n < 499; n++) {
                found += m.shake(0);
            }
            Check.due("not found 499 times", 0, found);
            Check.due("lot 500", more, m.shake(0));
            Check.due("shaken in this hour", 500, m.fruit(0, 7));
            Check.due("shakes so far", 500, m.count(12));
        }
    }

    /** "16 * the hour and its number", far on: 48 hours a call, 480 calls. */
    private static void lotsOfLateHours() {
        int hour = 480 * 48;
        for (int more = 0; more < 2; more++) {
            int lot = HourTest.lot(31, 16 * hour + 1);
            FallMarket m = Check.of("fruit a 4 6 12; fruit b 4 6 12; ripens=0; seed 31; falls=if hour<" + number(hour) + " then 0 else "
                + (lot + more) + ";");
            for (int n = 0; n < 480; n++) {
                m.hours(48);
            }
            Check.due("hour", hour + 1, m.hours(1));
            Check.due("falls in hour " + hour, more, m.fruit(1, 3));
            Check.due("ripe all along", 12, m.fruit(1, 2));
        }
    }

    /** "a VAR not told for a LAW is 0 in it": of what has lain for two hours, propped and shaken as it fell, too. */
    private static void varsNotTold() {
        // hour 3, one of two fruit left, wind 5
        int[] ofFruit = {7, 6, 3, 5, 4, 0, 1, 0, 1};
        int[] worth = {7, 6, 3, 0, 4, 0, 0, 2, 1};
        int[] bounces = {7, 6, 3, 0, 4, 0, 0, 0, 1};
        int[] wind = {0, 0, 3, 0, 0, 0, 0, 0, 1};
        for (int i = 0; i < VARS.length; i++) {
            String fruit = "fruit a 4 6 7; fruit b 1 1 1; keeps 9; ";
            String falls = "falls = if hour<1 then shaken*100 else if hour<3 then 0 else " + VARS[i] + ";";
            FallMarket m = fallen(fruit + falls + "wind=5;ripens=if hour<3 then 0 else " + VARS[i] + ";worth=" + VARS[i]
                + ";bounces=if hour<3 then 0 else " + VARS[i] + ";");
            Check.due("lies", 1, m.fruit(0, 3));
            Check.due("falls, " + VARS[i], ofFruit[i], m.tells(0, 0));
            Check.due("ripens, " + VARS[i], ofFruit[i], m.tells(0, 1));
            Check.due("worth, " + VARS[i], worth[i], m.tells(0, 2));
            Check.due("bounces, " + VARS[i], bounces[i], m.tells(0, 3));
            m = fallen(fruit + "falls=shaken*100; wind=if hour<3 then 0 else " + VARS[i] + ";");
            Check.due("wind, " + VARS[i], wind[i], m.count(3));
        }
    }

    private static FallMarket fallen(String text) {
        FallMarket m = Check.of(text);
        m.prop(0, true);
        m.shake(0);
        m.hours(3);
        return m;
    }

    /** "across: the X where it hung, lying or not". */
    private static void acrossLyingOrNot() {
        FallMarket m = Check.of("fruit a 2 1 1; falls=100; bounces=if hour<1 then 5 else across; worth=across*10+lay; keeps 1;");
        Check.due("worth, hanging", 20, m.tells(0, 2));
        m.hours(1);
        Check.due("lies at", 7, m.fruit(0, 0));
        Check.due("worth, lying", 20, m.tells(0, 2));
        Check.due("bounces, lying", 2, m.tells(0, 3));
        m.hours(2);
        Check.due("rotten", 3, m.fruit(0, 3));
        Check.due("worth, rotten", 22, m.tells(0, 2));
        m = Check.of("fruit a 2 1 1; falls=100; bounces=if hour<1 then 5 else across; worth=across; buyer b 7 0 9;");
        m.hours(2);
        Check.due("sold where it lay", 2, m.fruit(0, 3));
        Check.due("bounces, sold", 2, m.tells(0, 3));
    }

    /** "-100: no such ones": -9 is an answer, and so is -1. */
    private static void tellsOfNoSuch() {
        FallMarket m = Check.of("fruit a 4 6 12; fruit b 1 1 1; bounces=0-9; ripens=0-1;");
        Check.due("bounces", -9, m.tells(1, 3));
        Check.due("ripens", -1, m.tells(1, 1));
        int[] odd = {LEAST, -100, -2, -1, 2, 3, 7, 100, GREATEST};
        for (int fruit : odd) {
            for (int what = 0; what < 4; what++) {
                Check.due("tells(" + fruit + ", " + what + ")", -100, m.tells(fruit, what));
            }
        }
        int[] oddWhat = {LEAST, -1, 4, 5, GREATEST};
        for (int what : oddWhat) {
            Check.due("tells(0, " + what + ")", -100, m.tells(0, what));
            Check.due("tells(2, " + what + ")", -100, m.tells(2, what));
        }
    }

    /** "What WIND tells in n HOURS (0 .. 60), left as it is now". */
    private static void windOfHours() {
        FallMarket m = Check.of("fruit a 4 6 12; fruit b 4 6 12; falls=100; wind=if hour<60 then left else if hour<61 then 6 else 7;");
        Check.due("windIn(0)", 2, m.windIn(0));
        Check.due("windIn(1), though none hangs then", 2, m.windIn(1));
        Check.due("windIn(59)", 2, m.windIn(59));
        Check.due("windIn(60)", 6, m.windIn(60));
        int[] none = {-1, 61, 62, LEAST, GREATEST};
        for (int n : none) {
            Check.due("windIn(" + n + ")", -1, m.windIn(n));
        }
        m.hours(1);
        Check.due("windIn(0), none left", 0, m.windIn(0));
        Check.due("windIn(59)", 6, m.windIn(59));
        Check.due("windIn(60)", 7, m.windIn(60));
        Check.due("windIn(60) of a new object", 0, new FallMarket().windIn(60));
    }
}
