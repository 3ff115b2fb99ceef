/** Promises 8 and 20: what laws tell. */
public final class LawTest {
    public static void main(String[] args) {
        sums();
        ifs();
        divisions();
        heldTo();
        varsByLaw();
        wrong();
        winds();
        Check.end("LawTest");
    }

    private static int worth(String law) {
        return Check.of("fruit a 4 6 12; worth = " + law + ";").tells(0, 2);
    }

    private static void sums() {
        Check.due("2 + 3 * 4", 14, worth("2 + 3 * 4"));
        Check.due("(2 + 3) * 4", 20, worth("(2 + 3) * 4"));
        Check.due("20 - 3 - 4", 13, worth("20 - 3 - 4"));
        Check.due("80 / 4 / 2", 10, worth("80 / 4 / 2"));
        Check.due("80 / (4 / 2)", 40, worth("80 / (4 / 2)"));
        Check.due("7 / 2 * 2", 6, worth("7 / 2 * 2"));
        Check.due("(0 - 7) / 2 + 10", 7, worth("(0 - 7) / 2 + 10"));
        Check.due("wraps", 17, worth("9999 * 9999 * 9999 * 9999 + 17 - 9999 * 9999 * 9999 * 9999"));
        // 65536 * 65536 is 0 in 32 bits.
        Check.due("wraps to 0", 5, worth("(256 * 256) * (256 * 256) + 5"));
        // the least int divided by -1 is itself
        Check.due("least by -1", 1, worth("if 256 * 256 * 256 * 128 / (0 - 1) < 0 then 1 else 2"));
        Check.due("brackets", 42, worth("((((((42))))))"));
        Check.due("deep", 27, worth("(1 + (2 + (3 + (4 + (5 + (6 + 1 * 6))))))"));
    }

    private static void ifs() {
        Check.due("holds", 1, worth("if 1 < 2 then 1 else 2"));
        Check.due("alike does not hold", 2, worth("if 2 < 2 then 1 else 2"));
        Check.due("first that holds", 4, worth("if 3 < 2 then 1 else if 2 < 3 then 4 else if 1 < 2 then 5 else 6"));
        Check.due("none holds", 6, worth("if 3 < 2 then 1 else if 3 < 3 then 4 else if 2 < 1 then 5 else 6"));
        Check.due("below 0", 1, worth("if 0 - 1 < 0 then 1 else 2"));
    }

    private static void divisions() {
        Check.due("by 0", 0, worth("5 / 0 + 7"));
        Check.due("by a 0 behind", 0, worth("7 + 5 / (ripe - 12)"));
        Check.due("0 by 0", 0, worth("9 + 0 / 0"));
        Check.due("not looked at, then", 3, worth("if 2 < 1 then 1 / 0 else 3"));
        Check.due("not looked at, else", 3, worth("if 1 < 2 then 3 else 1 / 0"));
        Check.due("not looked at, later if", 3, worth("if 1 < 2 then 3 else if 1 / 0 < 2 then 4 else 5"));
        Check.due("looked at, if", 0, worth("if 1 / 0 < 2 then 3 else 4"));
        Check.due("looked at, if, right", 0, worth("if 2 < 1 / 0 then 3 else 4"));
        Check.due("looked at, second if", 0, worth("if 2 < 1 then 3 else if 1 / 0 < 1 then 4 else 5"));
    }

    private static void heldTo() {
        FallMarket m = Check.of("fruit a 4 6 12; wind = 10; ripens = 10; falls = 101; worth = 100; bounces = 10;");
        Check.due("most wind", 9, m.count(3));
        Check.due("most falls", 100, m.tells(0, 0));
        Check.due("most ripens", 9, m.tells(0, 1));
        Check.due("most worth", 99, m.tells(0, 2));
        Check.due("most bounces", 9, m.tells(0, 3));
        m = Check.of("fruit a 4 6 12; wind = 0-10; ripens = 0-10; falls = 0-1; worth = 0-1; bounces = 0-10;");
        Check.due("least wind", 0, m.count(3));
        Check.due("least falls", 0, m.tells(0, 0));
        Check.due("least ripens", -9, m.tells(0, 1));
        Check.due("least worth", 0, m.tells(0, 2));
        Check.due("least bounces", -9, m.tells(0, 3));
    }

    /** One text a var: each law tells it, hour 3, fruit a hanging propped and shaken twice, 2 left. */
    private static void varsByLaw() {
        String[] vars = {"ripe", "high", "hour", "blows", "across", "shaken", "propped", "lay", "left"};
        int[] fruitLaw = {7, 6, 3, 5, 4, 2, 1, 0, 2};
        int[] worth = {7, 6, 3, 0, 4, 0, 0, 0, 2};
        int[] bounces = {7, 6, 3, 0, 4, 0, 0, 0, 2};
        for (int i = 0; i < vars.length; i++) {
            String v = vars[i];
            FallMarket m = Check.of("fruit a 4 6 7; fruit b 1 1 1; wind = 5; ripens = 0; falls = 0; worth = " + v
                + "; bounces = " + v + ";");
            m.hours(3);
            m.prop(0, true);
            m.shake(0);
            m.shake(0);
            Check.due("worth " + v, worth[i], m.tells(0, 2));
            Check.due("bounces " + v, bounces[i], m.tells(0, 3));
            m = Check.of("fruit a 4 6 7; fruit b 1 1 1; wind = 5; ripens = 0; falls = " + v + ";");
            // A seed is looked for by which nothing falls in the first three hours.
            for (int seed = 0; seed < 100 && m.much(3, 0) < 2; seed++) {
                m = Check.of("fruit a 4 6 7; fruit b 1 1 1; wind = 5; ripens = 0; seed " + seed + "; falls = " + v + ";");
            }
            m.hours(3);
            m.prop(0, true);
            m.shake(0);
            m.shake(0);
            Check.due("falls " + v, fruitLaw[i], m.tells(0, 0));
            m = Check.of("fruit a 4 6 7; fruit b 1 1 1; wind = 5; falls = 0; ripens = if hour < 3 then 0 else " + v + ";");
            m.hours(3);
            m.prop(0, true);
            m.shake(0);
            m.shake(0);
            Check.due("ripens " + v, fruitLaw[i], m.tells(0, 1));
            m = Check.of("fruit a 4 6 7; fruit b 1 1 1; falls = 0; wind = " + v + ";");
            m.hours(3);
            m.prop(0, true);
            m.shake(0);
            Check.due("wind " + v, v.equals("hour") ? 3 : v.equals("left") ? 2 : 0, m.count(3));
        }
        // Lying, sold or rotten: across is where it hung, lay counts, left no longer.
        FallMarket m = Check.of("fruit a 4 6 50; fruit b 1 1 0; falls = if ripe < 50 then 0 else 100; bounces = 3; "
            + "worth = lay * 10 + left; ripens = across;");
        m.hours(1);
        m.hours(2);
        Check.due("lies at", 7, m.fruit(0, 0));
        Check.due("across", 4, m.tells(0, 1));
        Check.due("lay and left", 21, m.tells(0, 2));
    }

    private static void wrong() {
        FallMarket m = Check.of("fruit a 4 6 12;");
        int[][] none = {{-1, 0}, {1, 0}, {0, -1}, {0, 4}, {Integer.MAX_VALUE, 0}, {0, Integer.MIN_VALUE}};
        for (int[] pair : none) {
            Check.due("tells(" + pair[0] + ", " + pair[1] + ")", -100, m.tells(pair[0], pair[1]));
        }
    }

    private static void winds() {
        FallMarket m = Check.of("fruit a 1 1 1; fruit b 1 1 99; falls = if ripe < 99 then 0 else 100; ripens = 0; wind = hour + left;");
        Check.due("windIn(0)", 2, m.windIn(0));
        Check.due("windIn(5), left as now", 7, m.windIn(5));
        Check.due("windIn(60)", 9, m.windIn(60));
        Check.due("windIn(61)", -1, m.windIn(61));
        Check.due("windIn(-1)", -1, m.windIn(-1));
        m.hours(2);
        Check.due("windIn(0) in hour 2", 3, m.windIn(0));
        Check.due("windIn(2) in hour 2", 5, m.windIn(2));
    }
}
