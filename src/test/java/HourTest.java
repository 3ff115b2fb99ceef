/** Promises 6, 7, 9 to 12, 22 and 36: hours, what is done by hand, and what is seen of it. */
public final class HourTest {
    public static void main(String[] args) {
        lots();
        hand();
        hours();
        catching();
        lying();
        asBegan();
        shaking();
        counts();
        wrong();
        Check.end("HourTest");
    }

    /** The document's lot, written out once more. */
    static int lot(int seed, int which) {
        long h = seed;
        long[] each = {101, which};
        for (long it : each) {
            h = ((h ^ it) & 0xffffffffL) * 1103515245L + 12345 & 0xffffffffL;
            h = h ^ h >> 15;
        }
        return (int) ((h >> 1) % 100);
    }

    private static void lots() {
        for (int seed = 0; seed < 10000; seed += 271) {
            String text = "seed " + seed + "; falls = 37; ripens = 0; keeps 99;";
            for (int i = 0; i < 7; i++) {
                text += "fruit " + (char) ('a' + i) + " 1 1 1;";
            }
            FallMarket m = Check.of(text);
            for (int hour = 0; hour < 6; hour++) {
                int hanging = m.count(4);
                for (int i = 0; i < 7; i++) {
                    if (lot(seed, 16 * hour + i) < 37) {
                        hanging &= ~(1 << i);
                    }
                }
                m.hours(1);
                Check.due("hangs by seed " + seed + " in " + hour, hanging, m.count(4));
            }
        }
    }

    private static void hand() {
        FallMarket m = Check.of("fruit a 3 2 5; fruit b 4 9 6; buyer c 7 3 11; buyer d 0 0 2; falls = 0;");
        int[] fruit = {4, 9, 6, 0, -2, 0, 0, 0};
        for (int what = 0; what < 8; what++) {
            Check.due("fruit(1, " + what + ")", fruit[what], m.fruit(1, what));
        }
        int[] buyer = {7, 3, 11, 0};
        for (int what = 0; what < 4; what++) {
            Check.due("buyer(0, " + what + ")", buyer[what], m.buyer(0, what));
        }
        Check.due("go there already", false, m.go(0, 7));
        Check.due("go to 0", true, m.go(0, 0));
        Check.due("at 0", 0, m.buyer(0, 0));
        Check.due("go to 9", true, m.go(0, 9));
        Check.due("go to 10", false, m.go(0, 10));
        Check.due("go to -1", false, m.go(0, -1));
        Check.due("go of 2", false, m.go(2, 1));
        Check.due("go of -1", false, m.go(-1, 1));
        Check.due("things done", 2, m.count(9));
        Check.due("not propped already", false, m.prop(1, false));
        Check.due("prop", true, m.prop(1, true));
        Check.due("propped already", false, m.prop(1, true));
        Check.due("propped", 1, m.fruit(1, 6));
        Check.due("propped bits", 2, m.count(16));
        Check.due("prop no more", true, m.prop(1, false));
        Check.due("propped bits", 0, m.count(16));
        Check.due("prop 2", false, m.prop(2, true));
        Check.due("prop -1", false, m.prop(-1, true));
        Check.due("things done", 4, m.count(9));
        Check.due("hours(0)", 0, m.hours(0));
        Check.due("hours(-1)", -1, m.hours(-1));
        Check.due("hours(49)", -1, m.hours(49));
        Check.due("things done", 4, m.count(9));
        Check.due("hours(48)", 48, m.hours(48));
        Check.due("things done", 5, m.count(9));
        Check.due("hours(0) later", 48, m.hours(0));
        Check.due("ripe", 53, m.fruit(0, 2));
        Check.due("hours(48)", 96, m.hours(48));
        Check.due("ripe at most", 99, m.fruit(0, 2));
    }

    private static void hours() {
        FallMarket m = Check.of("fruit a 3 2 2; ripens = 0 - 9; falls = 0;");
        m.hours(1);
        Check.due("ripe at least", 0, m.fruit(0, 2));
        // It does not ripen in the hour in which it falls, nor once it lies.
        m = Check.of("fruit a 3 2 2; ripens = 5; falls = 100; worth = 99;");
        m.hours(3);
        Check.due("ripe as it fell", 2, m.fruit(0, 2));
        Check.due("has lain", 2, m.fruit(0, 5));
        // One fruit a hour: the hour's number and the wind go on.
        m = Check.of("fruit a 0 1 1; fruit b 1 1 1; wind = hour; falls = if blows < 3 then 0 else if across < 1 then 100 else 0;");
        Check.due("hours(3)", 3, m.hours(3));
        Check.due("all hang", 3, m.count(4));
        Check.due("wind", 3, m.count(3));
        Check.due("hours(1)", 4, m.hours(1));
        Check.due("b hangs", 2, m.count(4));
    }

    private static void catching() {
        String text = "falls = 100; worth = 7; fruit a 5 1 1; ";
        FallMarket m = Check.of(text + "buyer c 2 3 50; buyer d 7 3 50; buyer e 3 2 50;");
        Check.due("nearest, first of alike", 1, m.catcher(0));
        m.hours(1);
        Check.due("sold", 2, m.fruit(0, 3));
        Check.due("to", 1, m.fruit(0, 4));
        Check.due("paid", 43, m.buyer(1, 2));
        Check.due("bought", 1, m.buyer(1, 3));
        Check.due("others bought", 0, m.buyer(0, 3) + m.buyer(2, 3));
        Check.due("sold so far", 1, m.count(18));
        Check.due("not lain", 0, m.fruit(0, 5));
        m = Check.of(text + "buyer c 2 3 50; buyer d 7 1 50; buyer e 6 2 6;");
        Check.due("out of reach, out of coins", 0, m.catcher(0));
        m = Check.of(text + "buyer c 1 3 50; buyer d 7 1 50; buyer e 5 0 6;");
        Check.due("nobody", -2, m.catcher(0));
        m = Check.of(text + "buyer c 5 0 7;");
        Check.due("just the coins", 0, m.catcher(0));
        m.hours(1);
        Check.due("coins", 0, m.buyer(0, 2));
        Check.due("catcher of what is sold, coins gone", -2, m.catcher(0));
        // Coins as it goes: the second of alike fruit finds the purse too light.
        m = Check.of(text + "fruit b 5 1 1; buyer c 5 0 13; buyer d 6 1 7;");
        m.hours(1);
        Check.due("a", 0, m.fruit(0, 4));
        Check.due("b", 1, m.fruit(1, 4));
        Check.due("coins left", 6, m.count(15));
        // As if it hung: where it hung, and not having lain.
        m = Check.of("fruit a 2 1 1; falls = 100; bounces = 6; worth = 5 + lay * 10; buyer c 2 0 5;");
        m.go(0, 3);
        m.hours(3);
        Check.due("lies", 8, m.fruit(0, 0));
        m.go(0, 2);
        Check.due("catcher as if it hung", 0, m.catcher(0));
        Check.due("catcher(1)", -1, m.catcher(1));
        Check.due("catcher(-1)", -1, m.catcher(-1));
        m = Check.of("fruit a 2 1 1; worth = 0; falls = 100; buyer c 2 0 0;");
        m.hours(1);
        Check.due("worth nothing, bought for nothing", 0, m.fruit(0, 4));
    }

    private static void lying() {
        String text = "fruit a 2 1 1; falls = 100; bounces = 3; worth = 10 - lay; keeps 2; ";
        FallMarket m = Check.of(text + "buyer c 5 0 9; buyer d 5 0 20; buyer e 6 3 99;");
        m.hours(1);
        Check.due("lies", 1, m.fruit(0, 3));
        Check.due("at", 5, m.fruit(0, 0));
        Check.due("lying bits", 1, m.count(5));
        m.hours(1);
        Check.due("bought by the first with coins", 1, m.fruit(0, 4));
        Check.due("at its worth as the hour began", 10, m.buyer(1, 2));
        Check.due("sold bits", 1, m.count(6));
        Check.due("no longer where it lay", 2, m.fruit(0, 0));
        m = Check.of(text + "buyer c 5 0 9; buyer e 6 3 99;");
        m.hours(2);
        Check.due("lies on, reach does not count", 1, m.fruit(0, 5));
        m.hours(1);
        Check.due("bought as it is worth less", 0, m.fruit(0, 4));
        Check.due("lay when sold", 1, m.fruit(0, 5));
        m = Check.of(text);
        m.hours(3);
        Check.due("keeps 2, lain 2", 1, m.fruit(0, 3));
        m.hours(1);
        Check.due("lain 3", 3, m.fruit(0, 3));
        Check.due("lain 3", 3, m.fruit(0, 5));
        Check.due("rotten bits", 1, m.count(7));
        Check.due("sold to nobody", -2, m.fruit(0, 4));
        m.hours(5);
        Check.due("rotten lies no more", 3, m.fruit(0, 5));
        for (int bounce = 0; bounce < 10; bounce++) {
            m = Check.of("fruit a 4 1 1; falls = 100; bounces = " + bounce + ";");
            m.hours(1);
            Check.due("bounces " + bounce, Math.min(9, 4 + bounce), m.fruit(0, 0));
            m = Check.of("fruit a 4 1 1; falls = 100; bounces = 0 - " + bounce + ";");
            m.hours(1);
            Check.due("bounces -" + bounce, Math.max(0, 4 - bounce), m.fruit(0, 0));
        }
        m = Check.of("fruit a 4 1 1; falls = 100;");
        m.hours(1);
        Check.due("shake what lies", -2, m.shake(0));
        Check.due("prop what lies", false, m.prop(0, true));
        Check.due("things done", 1, m.count(9));
    }

    private static void asBegan() {
        // left is 2 for both, though the first has fallen when the second is asked.
        FallMarket m = Check.of("fruit a 4 1 1; fruit b 6 1 1; falls = if left < 2 then 0 else 100; bounces = left; worth = left;");
        m.hours(1);
        Check.due("both lie", 3, m.count(5));
        Check.due("b lies at", 8, m.fruit(1, 0));
        // What falls in an hour is not yet looked at as lying in it.
        m = Check.of("fruit a 4 1 1; falls = 100; keeps 0; bounces = 1; buyer c 5 0 9;");
        m.hours(1);
        Check.due("just fallen", 1, m.fruit(0, 3));
        m.hours(1);
        Check.due("then bought", 0, m.fruit(0, 4));
        // What lies is sold ahead of what falls, though its number is higher: there are coins for one only.
        m = Check.of("fruit a 5 1 1; fruit b 4 2 1; worth = 5; bounces = 1; buyer c 5 0 5; "
            + "falls = if hour < 1 then (high - 1) * 100 else 100;");
        m.hours(2);
        Check.due("b is bought", 0, m.fruit(1, 4));
        Check.due("a lies", 1, m.fruit(0, 3));
    }

    private static void shaking() {
        FallMarket m = Check.of("fruit a 4 1 1; fruit b 6 1 1; falls = 0; seed 77; fine 13; wind = 2; found = shaken * 9 + blows;");
        int found = 0;
        for (int n = 0; n < 30; n++) {
            int odds = Math.min(100, 9 * (n + 1) + 2);
            int is = lot(77, 1000000 + n) < odds ? 1 : 0;
            found += is;
            Check.due("shake " + n, is, m.shake(n % 2));
            Check.due("shakes", n + 1, m.count(12));
            Check.due("found out", found, m.count(13));
            Check.due("fines", 13 * found, m.count(14));
            if (n == 14) {
                Check.due("shaken a", 8, m.fruit(0, 7));
                Check.due("shaken b", 7, m.fruit(1, 7));
                m.hours(1);
                Check.due("shaken a", 0, m.fruit(0, 7));
            }
        }
        Check.due("coins are not asked for fines", 0, m.count(15));
        foundVars();
        Check.due("shake(2)", -1, m.shake(2));
        Check.due("shake(-1)", -1, m.shake(-1));
        m = Check.of("fruit a 4 1 1; falls = shaken * 100;");
        m.prop(0, true);
        m.shake(0);
        m.hours(1);
        Check.due("shaken down", 1, m.fruit(0, 3));
        Check.due("shaken no more", 0, m.fruit(0, 7));
        Check.due("none hangs propped", 0, m.count(16));
    }

    /** Of all vars, FOUND knows the hour, how much is left, how often all was shaken, and the wind. */
    private static void foundVars() {
        String[] vars = {"ripe", "high", "hour", "blows", "across", "shaken", "propped", "lay", "left"};
        int[] known = {0, 0, 3, 5, 0, 2, 0, 0, 2};
        for (int i = 0; i < vars.length; i++) {
            FallMarket m = Check.of("fruit a 4 6 7; fruit b 1 1 1; wind = 5; falls = 0; found = if " + vars[i] + " < " + known[i]
                + " then 0 else if " + known[i] + " < " + vars[i] + " then 0 else 100;");
            m.hours(3);
            m.prop(0, true);
            m.shake(1);
            Check.due("found by " + vars[i], 1, m.shake(0));
        }
    }

    private static void counts() {
        FallMarket m = Check.of("fruit a 4 1 10; fruit b 6 1 20; fruit c 1 1 30; buyer d 1 0 40; buyer e 6 0 5; "
            + "falls = if ripe < 20 then 0 else 100; ripens = 0; keeps 0; wind = left; fine 2; found = 100;");
        m.tell(1, 1);
        m.hold(0);
        m.hold(2);
        m.shake(0);
        m.prop(0, true);
        m.prop(1, true);
        m.feed(1, 2, 3, 4, 5);
        int[] ahead = {3, 2, 0, 3, 7, 0, 0, 0, 20, 3, 1, 2, 1, 1, 2, 45, 3, 60, 0};
        for (int what = 0; what < ahead.length; what++) {
            Check.due("count(" + what + ") ahead", ahead[what], m.count(what));
        }
        m.hours(1);
        int[] lying = {3, 2, 1, 1, 1, 2, 4, 0, 20, 4, 1, 2, 1, 1, 2, 15, 1, 10, 1};
        for (int what = 0; what < lying.length; what++) {
            Check.due("count(" + what + ") lying", lying[what], m.count(what));
        }
        m.hours(1);
        Check.due("rotten", 2, m.count(7));
        Check.due("lying", 0, m.count(5));
        Check.due("count(19)", -1, m.count(19));
        Check.due("count(-1)", -1, m.count(-1));
    }

    private static void wrong() {
        FallMarket m = Check.of("fruit a 4 1 10; buyer d 1 0 40;");
        int[] odd = {-1, 1, 100, Integer.MAX_VALUE, Integer.MIN_VALUE};
        for (int i : odd) {
            for (int what = -1; what < 9; what++) {
                Check.due("fruit(" + i + ", " + what + ")", -1, m.fruit(i, what));
                Check.due("buyer(" + i + ", " + what + ")", -1, m.buyer(i, what));
            }
        }
        Check.due("fruit(0, 8)", -1, m.fruit(0, 8));
        Check.due("fruit(0, -1)", -1, m.fruit(0, -1));
        Check.due("buyer(0, 4)", -1, m.buyer(0, 4));
        Check.due("buyer(0, -1)", -1, m.buyer(0, -1));
    }
}
