/** Promises 14 to 19 and 21: what would be by the odds. */
public final class OddsTest {
    public static void main(String[] args) {
        hangs();
        means();
        stands();
        props();
        shakes();
        passes();
        next();
        Check.end("OddsTest");
    }

    private static void fraction(FallMarket m, int fruit, int n, int above, int below) {
        Check.due("hangsOn(" + fruit + ", " + n + ") above", above, m.hangsOn(fruit, n, false));
        Check.due("hangsOn(" + fruit + ", " + n + ") below", below, m.hangsOn(fruit, n, true));
    }

    private static void hangs() {
        FallMarket m = Check.of("fruit a 1 1 1; falls = 1; fruit b 1 1 1;");
        fraction(m, 0, 1, 99, 100);
        fraction(m, 0, 4, 96059601, 100000000);
        Check.due("n 0", -1, m.hangsOn(0, 0, true));
        Check.due("n 5", -1, m.hangsOn(0, 5, true));
        Check.due("fruit 2", -1, m.hangsOn(2, 1, true));
        Check.due("fruit -1", -1, m.hangsOn(-1, 1, false));
        // Ripe and hour and wind go on; left, props stay; shakes are for this hour.
        m = Check.of("fruit a 1 1 10; fruit b 1 1 90; ripens = 2 + hour; wind = hour; "
            + "falls = ripe + 10 * blows + 20 * shaken + 5 * propped + left;");
        fraction(m, 0, 1, 22, 25);
        // hour 1: 12 + 10 + 2 = 24, hour 2: 15 + 20 + 2 = 37
        fraction(m, 0, 3, 22 * 76 * 63 / 8, 250000 / 8);
        m.shake(0);
        fraction(m, 0, 2, 68 * 76 / 16, 10000 / 16);
        m.prop(0, true);
        fraction(m, 0, 2, 63 * 71, 10000);
        fraction(m, 1, 4, 0, 1);
        m = Check.of("fruit a 1 1 1; falls = 0;");
        fraction(m, 0, 4, 1, 1);
        m = Check.of("fruit a 1 1 1; falls = 100;");
        m.hours(1);
        Check.due("lies", -2, m.hangsOn(0, 1, true));
        Check.due("lies, n 5", -1, m.hangsOn(0, 5, true));
        m = Check.of("fruit a 1 1 98; ripens = 9; falls = ripe - 90;");
        // held to 99 as it ripens
        fraction(m, 0, 3, 92 * 91 * 91 / 4, 1000000 / 4);
    }

    private static void means() {
        FallMarket m = Check.of("fruit a 3 1 10; fruit b 5 1 20; buyer c 0 2 0; buyer d 5 1 0; ripens = 5; falls = ripe; worth = ripe + hour;");
        // a: .1 * 10 + .9 * .15 * 16 + .9 * .85 * .2 * 22 = 1 + 2.16 + 3.366
        Check.due("mean(0, 2, 1)", 100, m.mean(0, 2, 1));
        Check.due("mean(0, 2, 2)", 316, m.mean(0, 2, 2));
        Check.due("mean(0, 2, 3)", 652, m.mean(0, 2, 3));
        Check.due("d keeps b", 100, m.mean(0, 4, 1));
        Check.due("alike far: the first", 500, m.mean(0, 5, 1));
        Check.due("mean(1, 4, 1)", 500, m.mean(1, 4, 1));
        Check.due("mean(1, 9, 1)", 0, m.mean(1, 9, 1));
        int[][] none = {{-1, 0, 1}, {2, 0, 1}, {0, -1, 1}, {0, 10, 1}, {0, 0, 0}, {0, 0, 5}};
        for (int[] a : none) {
            Check.due("mean(" + a[0] + ", " + a[1] + ", " + a[2] + ")", -1, m.mean(a[0], a[1], a[2]));
        }
        Check.due("nothing happens", 0, m.buyer(0, 0));
        // What lies is not caught.
        m = Check.of("fruit a 3 1 10; buyer c 0 0 99; falls = 100;");
        m.hours(1);
        Check.due("lies", 0, m.mean(0, 3, 4));
        // Rounded down over all, not for each: 3 * 0.333.. of hundredths
        m = Check.of("fruit a 3 1 1; fruit b 3 1 1; fruit c 3 1 1; buyer d 3 0 0; falls = if hour < 1 then 99 else 50; worth = hour;");
        Check.due("together", 1, m.mean(0, 3, 2));
    }

    private static void stands() {
        FallMarket m = Check.of("fruit a 3 1 10; fruit b 6 1 20; buyer c 0 1 0; buyer d 9 3 0; ripens = 5; falls = ripe; worth = ripe + hour;");
        Check.due("stand(0, 1, 0)", 5, m.stand(0, 1, 0));
        Check.due("stand(0, 1, 1)", 400, m.stand(0, 1, 1));
        Check.due("stand(1, 1, 0)", 3, m.stand(1, 1, 0));
        Check.due("stand(1, 1, 1)", 500, m.stand(1, 1, 1));
        int[][] none = {{-1, 1, 0}, {2, 1, 0}, {0, 0, 0}, {0, 5, 0}, {0, 1, 2}, {0, 1, -1}};
        for (int[] a : none) {
            Check.due("stand(" + a[0] + ", " + a[1] + ", " + a[2] + ")", -1, m.stand(a[0], a[1], a[2]));
        }
        Check.due("nothing happens", 9, m.buyer(1, 0));
        m = Check.of("fruit a 2 1 1; fruit b 7 1 1; buyer c 0 0 0; falls = 50; worth = 1;");
        Check.due("alike: the first", 2, m.stand(0, 4, 0));
        // Not rounded: a millionth more at 7 than at 2.
        m = Check.of("fruit a 2 1 1; fruit b 7 2 1; buyer c 0 0 0; worth = 1; falls = if hour < 1 then 99 else if hour < 2 then 99 else high;");
        Check.due("not rounded", 7, m.stand(0, 3, 0));
        Check.due("in hundredths alike", m.mean(0, 2, 3), m.mean(0, 7, 3));
        m = Check.of("buyer c 5 0 0;");
        Check.due("no fruit", 0, m.stand(0, 1, 0));
        Check.due("no fruit", 0, m.stand(0, 1, 1));
    }

    private static void props() {
        FallMarket m = Check.of("fruit a 2 1 50; fruit b 7 2 10; ripens = 0; falls = ripe / (1 + propped * 4);");
        Check.due("props(1, 0)", 60, m.props(1, 0));
        Check.due("props(1, 1)", 0, m.props(1, 1));
        // a: .5 * .5 = .25, propped .9 * .1 = .09
        Check.due("props(2, 1)", 0, m.props(2, 1));
        m = Check.of("fruit a 2 1 80; fruit b 7 2 10; ripens = 0; falls = ripe / (1 + propped * 3);");
        // a: .2 * .8 = .16, propped .8 * .2 = .16: alike, so not; in hour 3 .032 and .128
        Check.due("props(2, 1)", 0, m.props(2, 1));
        Check.due("props(3, 1)", 1, m.props(3, 1));
        // .128 + .9 * .9 * .1
        Check.due("props(3, 0)", 20, m.props(3, 0));
        m.prop(1, true);
        Check.due("nothing else is propped", 20, m.props(3, 0));
        Check.due("b is propped still", 2, m.count(16));
        int[][] none = {{0, 0}, {4, 0}, {1, -1}, {1, 2}};
        for (int[] a : none) {
            Check.due("props(" + a[0] + ", " + a[1] + ")", -1, m.props(a[0], a[1]));
        }
        m = Check.of("fruit a 2 1 1; fruit b 2 1 1; falls = propped * 70 + shaken * 10; ripens = 0;");
        m.shake(1);
        // .7 + .8
        Check.due("props(1, 0)", 150, m.props(1, 0));
        Check.due("props(1, 1)", 3, m.props(1, 1));
        // .3 * .7 + .2 * .7
        Check.due("props(2, 0)", 35, m.props(2, 0));
        m.hours(1);
        Check.due("what lies is not propped", m.count(4), m.props(1, 1));
    }

    private static void shakes() {
        FallMarket m = Check.of("fruit a 2 1 20; fruit b 2 1 99; falls = ripe + shaken * 4; ripens = 0;");
        Check.due("shakes(0, 100)", 20, m.shakes(0, 100));
        Check.due("shakes(0, 97)", 20, m.shakes(0, 97));
        Check.due("shakes(0, 96)", 19, m.shakes(0, 96));
        Check.due("shakes(0, 20)", 0, m.shakes(0, 20));
        Check.due("shakes(0, 0)", 0, m.shakes(0, 0));
        Check.due("shakes(0, 101)", -1, m.shakes(0, 101));
        Check.due("shakes(0, -1)", -1, m.shakes(0, -1));
        Check.due("shakes(2, 1)", -1, m.shakes(2, 1));
        Check.due("shakes(-1, 1)", -1, m.shakes(-1, 1));
        m.shake(0);
        Check.due("those ahead count", 18, m.shakes(0, 96));
        Check.due("nothing happens", 1, m.fruit(0, 7));
        m = Check.of("fruit a 2 1 20; falls = shaken * 4;");
        Check.due("not by 20", -2, m.shakes(0, 81));
        Check.due("by 20", 20, m.shakes(0, 80));
        m = Check.of("fruit a 2 1 20; falls = 100;");
        m.hours(1);
        Check.due("lies", -2, m.shakes(0, 0));
        Check.due("lies, p 101", -1, m.shakes(0, 101));
    }

    private static void passes() {
        FallMarket m = Check.of("fruit a 2 1 20; falls = ripe + shaken * 4 + blows * 3; wind = 1;");
        Check.due("passes(0, 0)", 1, m.passes(0, 0));
        Check.due("passes(0, 1)", 3, m.passes(0, 1));
        Check.due("passes(0, 6)", 9, m.passes(0, 6));
        Check.due("passes(0, 7)", -2, m.passes(0, 7));
        Check.due("passes(0, 20)", -2, m.passes(0, 20));
        Check.due("passes(0, 21)", -1, m.passes(0, 21));
        Check.due("passes(0, -1)", -1, m.passes(0, -1));
        Check.due("passes(1, 1)", -1, m.passes(1, 1));
        Check.due("passes(-1, 1)", -1, m.passes(-1, 1));
        m = Check.of("fruit a 2 1 20; falls = 100;");
        Check.due("by no wind", 0, m.passes(0, 20));
        m.hours(1);
        Check.due("lies", -2, m.passes(0, 1));
        Check.due("lies, k 21", -1, m.passes(0, 21));
    }

    private static void next() {
        FallMarket m = Check.of("fruit a 2 1 0; fruit b 2 1 60; fruit c 2 1 60; falls = if ripe < 60 then shaken * 60 else 60;");
        Check.due("next(false)", 1, m.next(false));
        Check.due("next(true)", 60, m.next(true));
        m.shake(0);
        Check.due("of alike ones the first", 0, m.next(false));
        m = Check.of("fruit a 2 1 0; falls = 0;");
        Check.due("odds 0", 0, m.next(true));
        Check.due("odds 0", 0, m.next(false));
        m = Check.of("fruit a 2 1 0; fruit b 2 2 0; falls = if high < 2 then 100 else 1; seed 3;");
        m.hours(1);
        Check.due("what lies does not count", m.count(4) == 2 ? 1 : -2, m.next(false));
        m = Check.of("fruit a 2 1 0; falls = 100;");
        m.hours(1);
        Check.due("none hangs", -2, m.next(false));
        Check.due("none hangs", -2, m.next(true));
    }
}
