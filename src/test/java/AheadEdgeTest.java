/**
 * Part III of the terms and promises 14 to 19, 21 and 23 to 28: the least and the greatest n, p, k and s, one
 * beyond each, of alike ones the first or the least, rounded down, fractions that cannot be lessened.
 */
public final class AheadEdgeTest {
    private static final int GREATEST = Integer.MAX_VALUE;
    private static final int LEAST = Integer.MIN_VALUE;

    public static void main(String[] args) {
        hangsOnFor1To4();
        hangsOnCannotBeLessened();
        hangsOnRipeAsItGoes();
        hangsOnNotShakenButNow();
        hangsOnLeftAsNow();
        hangsOnOfNoSuch();
        meanFor1To4();
        meanRoundedDown();
        meanOfWhatItCatches();
        meanOthersWhereTheyAre();
        meanNobodysCoins();
        meanOfNoSuch();
        standFrom0To9();
        standFirstOfAlike();
        standNotRounded();
        standOfNoSuch();
        propsFor1To3();
        propsLeastBits();
        propsNothingElse();
        propsRoundedDown();
        propsOfNoSuch();
        shakesFrom0To20();
        shakesOfNoSuch();
        passesFrom0To9();
        passesOfNoSuch();
        nextFirstOfAlike();
        inHoursFrom0To60();
        inHoursFromHowItIs();
        inHoursFirstOfAll();
        inHoursOfNoSuch();
        lastIn200();
        asleepFrom0();
        yearBySeeds();
        yearOfNoSuch();
        nothingHappens();
        Check.end("AheadEdgeTest");
    }

    private static void fraction(String name, FallMarket m, int fruit, int n, int above, int below) {
        Check.due(name + ", above", above, m.hangsOn(fruit, n, false));
        Check.due(name + ", below", below, m.hangsOn(fruit, n, true));
    }

    /** "how likely FRUIT still hangs behind n HOURS (1 .. 4)". */
    private static void hangsOnFor1To4() {
        FallMarket m = Check.of("fruit a 1 1 1; falls=1;");
        fraction("1 of 100, 1 hour", m, 0, 1, 99, 100);
        fraction("1 of 100, 2 hours", m, 0, 2, 9801, 10000);
        fraction("1 of 100, 3 hours", m, 0, 3, 970299, 1000000);
        fraction("1 of 100, 4 hours", m, 0, 4, 96059601, 100000000);
        m = Check.of("fruit a 1 1 1; falls=99;");
        fraction("99 of 100, 4 hours", m, 0, 4, 1, 100000000);
        for (int n = 1; n <= 4; n++) {
            fraction("surely hangs", Check.of("fruit a 1 1 1; falls=0;"), 0, n, 1, 1);
            fraction("surely falls", Check.of("fruit a 1 1 1; falls=100;"), 0, n, 0, 1);
        }
        // It falls in the fourth hour and not ahead.
        m = Check.of("fruit a 1 1 1; falls=if hour<3 then 0 else 100;");
        fraction("3 hours", m, 0, 3, 1, 1);
        fraction("4 hours", m, 0, 4, 0, 1);
    }

    /** "as a fraction that cannot be lessened". */
    private static void hangsOnCannotBeLessened() {
        int[][] odds = {{0, 1, 1}, {1, 99, 100}, {2, 49, 50}, {4, 24, 25}, {5, 19, 20}, {10, 9, 10}, {20, 4, 5}, {25, 3, 4}, {50, 1, 2},
            {60, 2, 5}, {75, 1, 4}, {90, 1, 10}, {98, 1, 50}, {99, 1, 100}, {100, 0, 1}};
        for (int[] row : odds) {
            fraction("falls by " + row[0], Check.of("fruit a 1 1 1; falls=" + row[0] + ";"), 0, 1, row[1], row[2]);
        }
        fraction("a half, 4 hours", Check.of("fruit a 1 1 1; falls=50;"), 0, 4, 1, 16);
        // .5 * .2 * .9 is 9 of 100: lessened over the hours together.
        fraction("over hours", Check.of("fruit a 1 1 1; falls=if hour<1 then 50 else if hour<2 then 80 else 10;"), 0, 3, 9, 100);
    }

    /** "RIPE as it goes": 0 to 99 on the way. */
    private static void hangsOnRipeAsItGoes() {
        FallMarket m = Check.of("fruit a 1 1 90; ripens=9; falls=ripe-89;");
        // 90, 99, 99, 99: falls by 1, 10, 10, 10
        fraction("held to 99", m, 0, 4, 99 * 729, 100000);
        m = Check.of("fruit a 1 1 10; ripens=0-9; falls=10-ripe;");
        // 10, 1, 0, 0: falls by 0, 9, 10, 10
        fraction("held to 0", m, 0, 4, 91 * 81, 10000);
        m = Check.of("fruit a 1 1 0; ripens=if hour<2 then 20 else 0-20; falls=ripe;");
        // 0, 9, 18, 9
        fraction("by 9 at most", m, 0, 4, 91 * 82 * 91 / 2, 500000);
        m = Check.of("fruit a 1 1 50; wind=hour*3; ripens=blows; falls=ripe;");
        // 50, 50, 53, 59
        fraction("by the wind of its hour", m, 0, 4, 50 * 50 * 47 * 41 / 2500, 100000000 / 2500);
    }

    /** "not SHAKEN but now": its shakes count in the first hour alone, for its ripening too. */
    private static void hangsOnNotShakenButNow() {
        FallMarket m = Check.of("fruit a 1 1 0; falls=ripe+shaken*10; ripens=shaken*2;");
        m.shake(0);
        m.shake(0);
        // 20, then ripe 4 for good
        fraction("1 hour", m, 0, 1, 4, 5);
        fraction("2 hours", m, 0, 2, 96, 125);
        fraction("3 hours", m, 0, 3, 2304, 3125);
    }

    /** "in HANGS ON, MEAN, STAND, PROPS left is as it is now": though others are sure to fall. */
    private static void hangsOnLeftAsNow() {
        FallMarket m = Check.of("fruit a 1 1 0; fruit b 1 2 0; buyer c 1 0 0; falls=if high<2 then left*10 else 100; worth=left; wind=left;");
        fraction("left 2 all along", m, 0, 4, 256, 625);
        // .2 and .8 * .2 of a, worth 2; b in the first hour, worth 2: 2 * (.2 + .16 + 1)
        Check.due("mean", 272, m.mean(0, 1, 2));
        Check.due("stand", 272, m.stand(0, 2, 1));
        // a: .8 * .2 = .16; b has fallen
        Check.due("props", 16, m.props(2, 0));
        // By seed 0 the first lot of a is 42: it hangs on, b does not.
        m.hours(1);
        Check.due("a alone hangs", 1, m.count(4));
        fraction("left 1 then", m, 0, 1, 9, 10);
    }

    /** "-2: it does not hang; NONE: no such ones". */
    private static void hangsOnOfNoSuch() {
        FallMarket m = Check.of("fruit a 1 1 0; fruit b 1 2 0; fruit c 9 2 0; buyer d 1 0 9; falls=(high-1)*100; keeps 0;");
        int[] ns = {LEAST, -1, 0, 5, 6, GREATEST};
        for (int n : ns) {
            Check.due("hangsOn(0, " + n + ")", -1, m.hangsOn(0, n, false));
            Check.due("hangsOn(0, " + n + ")", -1, m.hangsOn(0, n, true));
        }
        int[] fruits = {LEAST, -1, 3, 7, GREATEST};
        for (int i : fruits) {
            Check.due("hangsOn(" + i + ", 1)", -1, m.hangsOn(i, 1, false));
        }
        m.hours(1);
        Check.due("sold", -2, m.hangsOn(1, 1, false));
        Check.due("lies", -2, m.hangsOn(2, 4, true));
        m.hours(1);
        Check.due("rotten", -2, m.hangsOn(2, 1, true));
        Check.due("rotten, n 5", -1, m.hangsOn(2, 5, true));
        fraction("hangs", m, 0, 1, 1, 1);
    }

    /** "MEAN of a BUYER at X for n HOURS (1 .. 4)". */
    private static void meanFor1To4() {
        FallMarket m = Check.of("fruit a 9 1 1; buyer b 0 0 0; falls=50; worth=16;");
        int[] due = {800, 1200, 1400, 1500};
        for (int n = 1; n <= 4; n++) {
            Check.due("mean(0, 9, " + n + ")", due[n - 1], m.mean(0, 9, n));
            Check.due("mean(0, 8, " + n + ")", 0, m.mean(0, 8, n));
            Check.due("mean(0, 0, " + n + ")", 0, m.mean(0, 0, n));
        }
        String seven = "buyer x 1 0 0; falls=100; worth=99;";
        for (int i = 0; i < 7; i++) {
            seven += "fruit " + (char) ('a' + i) + " 1 1 1;";
        }
        Check.due("the most there is", 69300, Check.of(seven).mean(0, 1, 4));
        Check.due("none there is", 0, Check.of("buyer x 1 0 0;").mean(0, 1, 4));
    }

    /** "in hundredths, rounded down". */
    private static void meanRoundedDown() {
        // .01 * 1 is 1 hundredth; .01 + .99 * .01 = .0199
        FallMarket m = Check.of("fruit a 1 1 1; buyer b 1 0 0; falls=1; worth=1;");
        Check.due("0.01", 1, m.mean(0, 1, 1));
        Check.due("0.0199", 1, m.mean(0, 1, 2));
        Check.due("0.029701", 2, m.mean(0, 1, 3));
        Check.due("0.03940399", 3, m.mean(0, 1, 4));
        // Two of them: 0.0398, 0.059402, 0.07880798: not twice what is rounded.
        m = Check.of("fruit a 1 1 1; fruit c 1 1 1; buyer b 1 0 0; falls=1; worth=1;");
        Check.due("0.0398", 3, m.mean(0, 1, 2));
        Check.due("0.059402", 5, m.mean(0, 1, 3));
        Check.due("0.07880798", 7, m.mean(0, 1, 4));
        Check.due("stand alike", 7, m.stand(0, 4, 1));
        // .99 * .99 * .99 * 1 = .970299 of what is worth 1
        m = Check.of("fruit a 1 1 1; buyer b 1 0 0; falls=if hour<3 then 1 else 100; worth=if hour<3 then 0 else 1;");
        Check.due("0.970299", 97, m.mean(0, 1, 4));
    }

    /** "what it CATCHES is WORTH": not what lies, nor what is bought from the ground; as it ripens, not having lain. */
    private static void meanOfWhatItCatches() {
        FallMarket m = Check.of("fruit a 1 1 5; buyer b 1 0 0; falls=if hour<1 then 0 else 100; ripens=3; worth=ripe+hour*10+lay*50;");
        Check.due("1 hour", 0, m.mean(0, 1, 1));
        Check.due("2 hours: ripe 8 in hour 1", 1800, m.mean(0, 1, 2));
        m.hours(2);
        Check.due("lies", 1, m.fruit(0, 3));
        Check.due("what lies is not caught", 0, m.mean(0, 1, 4));
        m = Check.of("fruit a 1 1 5; buyer b 1 0 99; falls=100;");
        Check.due("will be caught", 500, m.mean(0, 1, 1));
        m.hours(1);
        Check.due("what is sold is not caught again", 0, m.mean(0, 1, 1));
        Check.due("nor in four hours", 0, m.mean(0, 1, 4));
        Check.due("nowhere to stand", 0, m.stand(0, 1, 0));
        Check.due("for nothing", 0, m.stand(0, 1, 1));
        m = Check.of("fruit a 1 1 5; buyer b 9 0 99; falls=100;");
        m.hours(1);
        Check.due("what lies is not caught, first of all", 0, m.mean(0, 1, 1));
        m = Check.of("fruit a 1 1 5; buyer b 1 0 99; falls=shaken*10+propped*5; worth=10;");
        m.shake(0);
        m.prop(0, true);
        // .15, then .05 of .85
        Check.due("shaken now, propped all along", 192, m.mean(0, 1, 2));
    }

    /** "others standing where they are": the nearest, of alike ones the first, within reach. */
    private static void meanOthersWhereTheyAre() {
        FallMarket m = Check.of("fruit a 4 1 5; buyer b 0 3 0; buyer c 5 1 0; buyer d 9 3 0; falls=100; worth=1;");
        int[] first = {0, 0, 0, 100, 100, 100, 0, 0, 0, 0};
        int[] third = {0, 0, 0, 0, 100, 0, 0, 0, 0, 0};
        for (int x = 0; x <= 9; x++) {
            Check.due("mean(0, " + x + ", 1)", first[x], m.mean(0, x, 1));
            Check.due("mean(2, " + x + ", 1)", third[x], m.mean(2, x, 1));
        }
        Check.due("where he is himself does not count", 100, m.mean(1, 3, 1));
        Check.due("out of his reach", 0, m.mean(1, 2, 1));
    }

    /** "nobody's COINS looked at": neither his nor another's. */
    private static void meanNobodysCoins() {
        FallMarket m = Check.of("fruit a 4 1 5; buyer b 4 0 0; buyer c 5 1 999; falls=100; worth=99;");
        Check.due("no coins", 9900, m.mean(0, 4, 1));
        Check.due("the other, behind one with no coins", 0, m.mean(1, 5, 1));
        Check.due("catcher looks at them", 1, m.catcher(0));
    }

    private static void meanOfNoSuch() {
        FallMarket m = Check.of("fruit a 4 1 5; buyer b 4 0 0; falls=100;");
        int[] odd = {LEAST, -1, 1, 4, GREATEST};
        for (int b : odd) {
            Check.due("mean(" + b + ", 4, 1)", -1, m.mean(b, 4, 1));
        }
        int[] xs = {LEAST, -1, 10, 11, GREATEST};
        for (int x : xs) {
            Check.due("mean(0, " + x + ", 1)", -1, m.mean(0, x, 1));
        }
        int[] ns = {LEAST, -1, 0, 5, GREATEST};
        for (int n : ns) {
            Check.due("mean(0, 4, " + n + ")", -1, m.mean(0, 4, n));
        }
    }

    /** "STAND: the X 0 .. 9 at which that is most". */
    private static void standFrom0To9() {
        for (int x = 0; x <= 9; x++) {
            FallMarket m = Check.of("fruit a " + x + " 1 5; buyer b 5 0 0; falls=100; worth=3;");
            for (int n = 1; n <= 4; n += 3) {
                Check.due("fruit at " + x, x, m.stand(0, n, 0));
                Check.due("how much", 300, m.stand(0, n, 1));
            }
            Check.due("he stays", 5, m.buyer(0, 0));
        }
        // One place from which both are reached.
        FallMarket m = Check.of("fruit a 2 1 5; fruit c 8 1 5; buyer b 0 3 0; falls=100; worth=3;");
        Check.due("between both", 5, m.stand(0, 1, 0));
        Check.due("both", 600, m.stand(0, 1, 1));
    }

    /** "of alike ones the first". */
    private static void standFirstOfAlike() {
        FallMarket m = Check.of("fruit a 4 1 5; buyer b 9 3 0; falls=100; worth=3;");
        Check.due("1 .. 7 are alike", 1, m.stand(0, 1, 0));
        m = Check.of("fruit a 2 1 5; fruit c 7 1 5; buyer b 7 0 0; falls=100; worth=3;");
        Check.due("2 and 7 are alike", 2, m.stand(0, 1, 0));
        m = Check.of("fruit a 2 1 5; buyer b 7 0 0; falls=0;");
        Check.due("nothing falls", 0, m.stand(0, 4, 0));
        Check.due("nothing falls", 0, m.stand(0, 4, 1));
        m = Check.of("buyer b 7 0 0;");
        Check.due("no fruit", 0, m.stand(0, 4, 0));
        // The other stands in between: behind an alike one with a lower number he catches nothing.
        m = Check.of("fruit a 4 1 5; buyer b 4 0 0; buyer c 9 3 0; falls=100;");
        Check.due("nowhere", 0, m.stand(1, 1, 0));
        Check.due("nothing", 0, m.stand(1, 1, 1));
    }

    /** "not rounded": 1 of 100,000,000 more is more. */
    private static void standNotRounded() {
        // a: .99, .0099, .000099, .00000099 * 99; b: the same and .00000100 * 99 in the last.
        FallMarket m = Check.of("fruit a 2 1 5; fruit c 7 2 5; buyer b 0 0 0; worth=1; falls=if hour<3 then 99 else if high<2 then 0 else 1;");
        Check.due("a hundred-millionth more", 7, m.stand(0, 4, 0));
        Check.due("alike in hundredths", m.mean(0, 2, 4), m.mean(0, 7, 4));
        Check.due("alike for three hours", 2, m.stand(0, 3, 0));
    }

    private static void standOfNoSuch() {
        FallMarket m = Check.of("fruit a 4 1 5; buyer b 4 0 0; falls=100;");
        int[] odd = {LEAST, -1, 1, 4, GREATEST};
        for (int b : odd) {
            Check.due("stand(" + b + ", 1, 0)", -1, m.stand(b, 1, 0));
        }
        int[] ns = {LEAST, -1, 0, 5, GREATEST};
        for (int n : ns) {
            Check.due("stand(0, " + n + ", 0)", -1, m.stand(0, n, 0));
        }
        int[] whats = {LEAST, -1, 2, GREATEST};
        for (int what : whats) {
            Check.due("stand(0, 1, " + what + ")", -1, m.stand(0, 1, what));
        }
    }

    private static void props(String name, FallMarket m, int hour, int much, int bits) {
        Check.due(name + ", how much", much, m.props(hour, 0));
        Check.due(name + ", which", bits, m.props(hour, 1));
    }

    /** "PROPS for the m-th HOUR from now (1 .. 3)". */
    private static void propsFor1To3() {
        // Propped it falls in the third hour only, else in the second only; c in the first.
        FallMarket m = Check.of("fruit a 1 1 5; fruit b 1 1 5; fruit c 1 2 5; "
            + "falls=if 1<high then 100 else if hour<1+propped then 0 else 100;");
        props("hour 1", m, 1, 100, 0);
        props("hour 2", m, 2, 200, 0);
        props("hour 3", m, 3, 200, 3);
        m = Check.of("fruit a 1 1 5; falls=if hour<2 then 0 else propped*100;");
        props("hour 1", m, 1, 0, 0);
        props("hour 2", m, 2, 0, 0);
        props("hour 3", m, 3, 100, 1);
        m.hours(1);
        props("hour 3 is the second from then", m, 2, 100, 1);
        String seven = "falls=propped*100;";
        for (int i = 0; i < 7; i++) {
            seven += "fruit " + (char) ('a' + i) + " 1 1 1;";
        }
        props("all seven", Check.of(seven), 1, 700, 127);
        props("none", new FallMarket(), 3, 0, 0);
    }

    /** "of alike ones the least bits". */
    private static void propsLeastBits() {
        props("props do nothing", Check.of("fruit a 1 1 5; fruit b 1 1 5; falls=50;"), 1, 100, 0);
        // .2 * .8 and .8 * .2 in the second hour.
        props("alike in the second", Check.of("fruit a 1 1 5; fruit b 1 1 5; falls=80-propped*60;"), 2, 32, 0);
        props("one alike, one more", Check.of("fruit a 1 1 5; fruit b 1 2 5; falls=if high<2 then 80-propped*60 else propped*50;"), 2, 41, 2);
        props("not shaken but now", shakenTwo(), 2, 50, 3);
    }

    private static FallMarket shakenTwo() {
        FallMarket m = Check.of("fruit a 1 1 5; fruit b 1 1 5; falls=if 0<shaken then 50 else propped*50;");
        m.shake(0);
        m.shake(1);
        return m;
    }

    /** "nothing else being so": what is propped now is not counted; what does not hang is never told. */
    private static void propsNothingElse() {
        FallMarket m = Check.of("fruit a 1 1 5; fruit b 1 2 5; falls=if hour<1 then (2-high)*100 else 60-propped*40;");
        m.prop(1, true);
        props("b is propped now", m, 2, 60, 0);
        m.hours(1);
        Check.due("a lies", 1, m.fruit(0, 3));
        props("a lies", m, 1, 60, 0);
        m = Check.of("fruit a 1 1 5; fruit b 1 2 5; falls=if hour<1 then (2-high)*100 else propped*40;");
        m.hours(1);
        props("a lies, b alone is propped", m, 1, 40, 2);
    }

    /** "how much, in hundredths, rounded down": over all fruit together. */
    private static void propsRoundedDown() {
        // .99 * .01 = .0099 each
        props("0.0099", Check.of("fruit a 1 1 5; falls=1;"), 2, 0, 0);
        props("0.0198", Check.of("fruit a 1 1 5; fruit b 1 1 5; falls=1;"), 2, 1, 0);
        props("0.029403", Check.of("fruit a 1 1 5; fruit b 1 1 5; fruit c 1 1 5; falls=1;"), 3, 2, 0);
        // Not rounded when they are set beside one another: .0099 is more than 0.
        props("0.0099 is more than 0", Check.of("fruit a 1 1 5; falls=propped;"), 2, 0, 1);
        props("0.009801 is more than 0", Check.of("fruit a 1 1 5; falls=propped;"), 3, 0, 1);
    }

    private static void propsOfNoSuch() {
        FallMarket m = Check.of("fruit a 1 1 5;");
        int[] ms = {LEAST, -1, 0, 4, 5, GREATEST};
        for (int hour : ms) {
            Check.due("props(" + hour + ", 0)", -1, m.props(hour, 0));
            Check.due("props(" + hour + ", 1)", -1, m.props(hour, 1));
        }
        int[] whats = {LEAST, -1, 2, GREATEST};
        for (int what : whats) {
            Check.due("props(1, " + what + ")", -1, m.props(1, what));
        }
    }

    /** "the fewest (0 .. 20) shakes now by which FALLS tells p (0 .. 100) or more"; "-2: not by 20". */
    private static void shakesFrom0To20() {
        FallMarket m = Check.of("fruit a 1 1 5; falls=shaken*5;");
        for (int p = 0; p <= 100; p++) {
            Check.due("shakes(0, " + p + ")", (p + 4) / 5, m.shakes(0, p));
        }
        m = Check.of("fruit a 1 1 5; falls=shaken*4;");
        Check.due("80 by 20", 20, m.shakes(0, 80));
        Check.due("81 not by 20", -2, m.shakes(0, 81));
        Check.due("100 not by 20", -2, m.shakes(0, 100));
        Check.due("0 by none", 0, m.shakes(0, 0));
        m = Check.of("fruit a 1 1 5; falls=if shaken<21 then 0 else 100;");
        Check.due("21 are too many", -2, m.shakes(0, 1));
        Check.due("p 0", 0, m.shakes(0, 0));
        // More shakes may make it less likely: the fewest by which it is so.
        m = Check.of("fruit a 1 1 5; falls=if shaken<3 then 10 else if shaken<5 then 90 else 20;");
        Check.due("90 by 3", 3, m.shakes(0, 90));
        Check.due("91 by none", -2, m.shakes(0, 91));
        Check.due("11 by 3", 3, m.shakes(0, 11));
        // FALLS is held to 100, and asked by wind, prop and all.
        Check.due("100 by 2", 2, Check.of("fruit a 1 1 5; falls=shaken*70;").shakes(0, 100));
        Check.due("surely", 0, Check.of("fruit a 1 1 5; falls=100;").shakes(0, 100));
    }

    /** "-2: .. it does not hang; NONE: no such ones". */
    private static void shakesOfNoSuch() {
        FallMarket m = Check.of("fruit a 1 1 0; fruit b 1 2 0; fruit c 9 2 0; buyer d 1 0 9; falls=(high-1)*100; keeps 0;");
        int[] ps = {LEAST, -1, 101, 102, GREATEST};
        for (int p : ps) {
            Check.due("shakes(0, " + p + ")", -1, m.shakes(0, p));
        }
        int[] fruits = {LEAST, -1, 3, 7, GREATEST};
        for (int i : fruits) {
            Check.due("shakes(" + i + ", 0)", -1, m.shakes(i, 0));
        }
        m.hours(1);
        Check.due("sold", -2, m.shakes(1, 0));
        Check.due("lies", -2, m.shakes(2, 0));
        m.hours(1);
        Check.due("rotten", -2, m.shakes(2, 0));
        Check.due("hangs", 0, m.shakes(0, 0));
    }

    /** "the least WIND (0 .. 9) with which it falls, unshaken, as likely at least as it does with k shakes (0 .. 20)". */
    private static void passesFrom0To9() {
        FallMarket m = Check.of("fruit a 1 1 5; falls=shaken+blows*2;");
        for (int k = 0; k <= 20; k++) {
            Check.due("passes(0, " + k + ")", k > 18 ? -2 : (k + 1) / 2, m.passes(0, k));
        }
        // With the WIND there is, 3: as likely as 6 and k.
        m = Check.of("fruit a 1 1 5; falls=shaken+blows*2; wind=3;");
        for (int k = 0; k <= 20; k++) {
            Check.due("wind 3, passes(0, " + k + ")", k > 12 ? -2 : 3 + (k + 1) / 2, m.passes(0, k));
        }
        Check.due("any wind", 0, Check.of("fruit a 1 1 5; falls=50; wind=9;").passes(0, 20));
        Check.due("wind 9 alone", 9, Check.of("fruit a 1 1 5; falls=if blows<9 then shaken else 20;").passes(0, 20));
        Check.due("by none", -2, Check.of("fruit a 1 1 5; falls=if blows<9 then shaken else 19;").passes(0, 20));
        // The least, though less wind than there is would do: stiller may be likelier.
        Check.due("stiller", 0, Check.of("fruit a 1 1 5; falls=90-blows*10; wind=4;").passes(0, 0));
        Check.due("the wind is held to 9", 9, Check.of("fruit a 1 1 5; falls=blows; wind=50;").passes(0, 0));
    }

    /** "-2: by none, it does not hang; NONE: no such ones". */
    private static void passesOfNoSuch() {
        FallMarket m = Check.of("fruit a 1 1 0; fruit b 1 2 0; fruit c 9 2 0; buyer d 1 0 9; falls=(high-1)*100; keeps 0;");
        int[] ks = {LEAST, -1, 21, 22, GREATEST};
        for (int k : ks) {
            Check.due("passes(0, " + k + ")", -1, m.passes(0, k));
        }
        int[] fruits = {LEAST, -1, 3, 7, GREATEST};
        for (int i : fruits) {
            Check.due("passes(" + i + ", 0)", -1, m.passes(i, 0));
        }
        m.hours(1);
        Check.due("sold", -2, m.passes(1, 0));
        Check.due("lies", -2, m.passes(2, 0));
        m.hours(1);
        Check.due("rotten", -2, m.passes(2, 0));
        Check.due("hangs", 0, m.passes(0, 0));
    }

    /** next: "of alike ones the first; -2: none hangs". */
    private static void nextFirstOfAlike() {
        FallMarket m = Check.of("fruit a 1 1 0; fruit b 1 2 0; fruit c 1 2 0; fruit d 1 1 0; falls=if high<2 then shaken*50 else 50;");
        Check.due("b and c", 1, m.next(false));
        Check.due("odds", 50, m.next(true));
        m.shake(3);
        Check.due("b, c and d", 1, m.next(false));
        m.shake(3);
        Check.due("d", 3, m.next(false));
        Check.due("odds", 100, m.next(true));
        m.shake(0);
        m.shake(0);
        Check.due("a and d", 0, m.next(false));
        m = Check.of("fruit a 1 1 0; fruit b 1 1 0; falls=0;");
        Check.due("by 0 all are alike", 0, m.next(false));
        Check.due("odds 0", 0, m.next(true));
        m = Check.of("fruit a 1 1 0; fruit b 1 2 0; falls=if hour<1 then (2-high)*100 else if high<2 then 90 else 10;");
        m.hours(1);
        Check.due("a lies, b hangs", 1, m.next(false));
        Check.due("odds of b", 10, m.next(true));
        Check.due("none in a new object", -2, new FallMarket().next(false));
        Check.due("none in a new object", -2, new FallMarket().next(true));
    }

    /** "IN n HOURS (0 .. 60)": in 0 it is as it is. */
    private static void inHoursFrom0To60() {
        FallMarket m = Check.of("fruit a 1 1 5; fruit b 8 1 5; fruit c 4 2 5; buyer d 1 0 9; "
            + "falls=if hour<59 then 0 else (2-high)*100; ripens=0; keeps 0;");
        int[][] how = {{0, 0, 0}, {0, 0, 0}, {2, 1, 0}};
        int[] ns = {0, 59, 60};
        for (int i = 0; i < ns.length; i++) {
            for (int f = 0; f < 3; f++) {
                Check.due("then(" + f + ", " + ns[i] + ", 0)", how[i][f], m.then(f, ns[i], 0));
                Check.due("then(" + f + ", " + ns[i] + ", 1)", how[i][f] == 2 ? 0 : -2, m.then(f, ns[i], 1));
            }
            Check.due("paid(0, " + ns[i] + ")", i == 2 ? 5 : 0, m.paid(0, ns[i]));
            int[] much = i == 2 ? new int[] {1, 1, 1, 0} : new int[] {3, 0, 0, 0};
            for (int h = 0; h < 4; h++) {
                Check.due("much(" + ns[i] + ", " + h + ")", much[h], m.much(ns[i], h));
            }
        }
        m.hours(48);
        m.hours(12);
        Check.due("then in 0, sold", 2, m.then(0, 0, 0));
        Check.due("then in 0, to whom", 0, m.then(0, 0, 1));
        Check.due("paid more in 0", 0, m.paid(0, 0));
        Check.due("paid more in 60", 0, m.paid(0, 60));
        Check.due("much in 0", 1, m.much(0, 2));
        Check.due("then in 1, rotten", 3, m.then(1, 1, 0));
        Check.due("much rotten in 1", 1, m.much(1, 3));
        Check.due("rotten to nobody", -2, m.then(1, 1, 1));
        Check.due("much of a new object", 0, new FallMarket().much(60, 0));
    }

    /** It goes on from how it is now: propped, shaken, lying, sold, and who stands where. */
    private static void inHoursFromHowItIs() {
        FallMarket m = Check.of("fruit a 1 1 5; fruit b 2 1 5; fruit c 3 1 5; falls=if 0<shaken then 100 else propped*100;");
        m.shake(0);
        m.prop(1, true);
        int[] due = {1, 1, 0};
        for (int i = 0; i < 3; i++) {
            Check.due("then(" + i + ", 1, 0)", due[i], m.then(i, 1, 0));
        }
        Check.due("much(1, 1)", 2, m.much(1, 1));
        last("propped, shaken, and one that hangs on", m, -2, -2);
        m.prop(2, true);
        last("all fall", m, 2, 1);
        m = Check.of("fruit a 1 1 5; buyer b 9 0 5; buyer c 9 0 5; falls=100; bounces=3; keeps 1;");
        m.hours(1);
        Check.due("nobody stands there", 3, m.then(0, 2, 0));
        m.go(1, 4);
        Check.due("it lies at 4", 2, m.then(0, 1, 0));
        Check.due("bought by", 1, m.then(0, 1, 1));
        Check.due("paid", 5, m.paid(1, 1));
        Check.due("paid by the other", 0, m.paid(0, 1));
        Check.due("asleep", 1, m.asleep());
        Check.due("year", 20, m.year(1, 0, 1, 20));
        m.go(1, 5);
        Check.due("not at 5", 1, m.then(0, 1, 0));
        m.hours(1);
        Check.due("has lain once, rotten next", 3, m.then(0, 1, 0));
        m.go(1, 4);
        Check.due("or bought", 2, m.then(0, 1, 0));
    }

    /** Each asked of a new object first of all, for other hours than the one ahead. */
    private static void inHoursFirstOfAll() {
        String text = "fruit a 1 1 5; fruit b 1 1 5; buyer c 1 0 9; falls=if hour<2 then 0 else 100; ripens=0; keeps 1;";
        Check.due("paid(0, 3)", 5, Check.of(text).paid(0, 3));
        Check.due("paid(0, 2)", 0, Check.of(text).paid(0, 2));
        Check.due("much(2, 0)", 2, Check.of(text).much(2, 0));
        Check.due("much(3, 1)", 1, Check.of(text).much(3, 1));
        Check.due("much(5, 3)", 1, Check.of(text).much(5, 3));
        Check.due("then(0, 3, 1)", 0, Check.of(text).then(0, 3, 1));
        Check.due("then(1, 3, 1)", -2, Check.of(text).then(1, 3, 1));
        FallMarket m = Check.of(text);
        Check.due("then in 5", 3, m.then(1, 5, 0));
        Check.due("paid in 2, behind it", 0, m.paid(0, 2));
        Check.due("paid in 3, behind it", 5, m.paid(0, 3));
        Check.due("much in 2, behind it", 0, m.much(2, 1));
        Check.due("much in 3, behind it", 1, m.much(3, 2));
        Check.due("then in 0, behind it", 0, m.then(1, 0, 0));
    }

    private static void inHoursOfNoSuch() {
        FallMarket m = Check.of("fruit a 1 1 5; buyer b 1 1 5;");
        int[] ns = {LEAST, -1, 61, 62, GREATEST};
        for (int n : ns) {
            Check.due("then(0, " + n + ", 0)", -1, m.then(0, n, 0));
            Check.due("then(0, " + n + ", 1)", -1, m.then(0, n, 1));
            Check.due("paid(0, " + n + ")", -1, m.paid(0, n));
            Check.due("much(" + n + ", 0)", -1, m.much(n, 0));
            Check.due("year(0, 0, " + n + ", 1)", -1, m.year(0, 0, n, 1));
        }
        int[] odd = {LEAST, -1, 1, 7, GREATEST};
        for (int i : odd) {
            Check.due("then(" + i + ", 1, 0)", -1, m.then(i, 1, 0));
            Check.due("paid(" + i + ", 1)", -1, m.paid(i, 1));
        }
        int[] whats = {LEAST, -1, 2, GREATEST};
        for (int what : whats) {
            Check.due("then(0, 1, " + what + ")", -1, m.then(0, 1, what));
        }
        int[] hows = {LEAST, -1, 4, GREATEST};
        for (int how : hows) {
            Check.due("much(1, " + how + ")", -1, m.much(1, how));
        }
    }

    private static void last(String name, FallMarket m, int which, int behind) {
        Check.due(name + ", which", which, m.last(0));
        Check.due(name + ", behind", behind, m.last(1));
    }

    /** "which FRUIT hangs last (in 200 HOURS; of those that fall in one HOUR the last by number; none, if any hangs then)". */
    private static void lastIn200() {
        last("all in the first", Check.of("fruit a 1 1 1; fruit b 1 1 1; fruit c 1 1 1; falls=100;"), 2, 1);
        last("in hour 200", Check.of("fruit a 1 1 1; falls=if hour<199 then 0 else 100;"), 0, 200);
        last("in hour 201", Check.of("fruit a 1 1 1; falls=if hour<200 then 0 else 100;"), -2, -2);
        last("never", Check.of("fruit a 1 1 1; falls=0;"), -2, -2);
        last("one never", Check.of("fruit a 1 1 1; fruit b 1 2 1; falls=(2-high)*100;"), -2, -2);
        last("the first by number", Check.of("fruit a 1 2 1; fruit b 1 1 1; falls=if hour<high then 0 else 100;"), 0, 3);
        last("the first two", Check.of("fruit a 1 2 1; fruit b 1 2 1; fruit c 1 1 1; falls=if hour<high then 0 else 100;"), 1, 3);
        last("no fruit", new FallMarket(), -2, -2);
        String seven = "";
        for (int i = 0; i < 7; i++) {
            seven += "fruit " + (char) ('a' + i) + " 1 1 " + i + ";";
            last("of " + (i + 1), Check.of(seven + "falls=100;"), i, 1);
            last("one by one, " + (i + 1), Check.of(seven + "ripens=0; falls=if hour<ripe then 0 else 100;"), i, i + 1);
        }
        FallMarket m = Check.of("fruit a 1 1 1; fruit b 1 1 1; falls=if hour<200 then 0 else 100;");
        m.hours(1);
        last("200 from then", m, 1, 200);
        m = Check.of("fruit a 1 1 1; falls=100;");
        m.hours(1);
        last("none hangs any more", m, -2, -2);
        int[] whats = {LEAST, -2, -1, 2, 3, GREATEST};
        for (int what : whats) {
            Check.due("last(" + what + ")", -1, m.last(what));
            Check.due("last(" + what + ") of a new object", -1, new FallMarket().last(what));
        }
    }

    /** "behind how many HOURS (0 .. 200) the first HOUR begins in which nothing is sold": seven fruit, so 7 at most. */
    private static void asleepFrom0() {
        Check.due("no fruit", 0, new FallMarket().asleep());
        Check.due("nobody buys", 0, Check.of("fruit a 1 1 1; falls=100;").asleep());
        Check.due("sold in the first", 1, Check.of("fruit a 1 1 1; buyer b 1 0 9; falls=100;").asleep());
        Check.due("sold in the second only", 0, Check.of("fruit a 1 1 1; buyer b 1 0 9; falls=if hour<1 then 0 else 100;").asleep());
        FallMarket m = Check.of("fruit a 1 1 1; buyer b 2 0 9; falls=100; bounces=1;");
        Check.due("falls, is not sold", 0, m.asleep());
        m.hours(1);
        Check.due("sold from the ground", 1, m.asleep());
        m.hours(1);
        Check.due("all is sold", 0, m.asleep());
        String text = "buyer x 1 0 99; falls=if hour<ripe then 0 else 100; ripens=0; worth=0;";
        for (int i = 0; i < 7; i++) {
            text += "fruit " + (char) ('a' + i) + " 1 1 " + i + ";";
            Check.due("one an hour, " + (i + 1), i + 1, Check.of(text).asleep());
        }
        // Two in one hour and none in the next.
        Check.due("a gap", 1, Check.of("fruit a 1 1 0; fruit b 1 1 0; fruit c 1 1 2; buyer x 1 0 9; worth=0; ripens=0; "
            + "falls=if hour<ripe then 0 else 100;").asleep());
    }

    /** "YEAR by s SEEDS (1 .. 20) from the text's SEED on .. in n HOURS (0 .. 60)". */
    private static void yearBySeeds() {
        int[] seeds = {0, 31, 9980, 9999};
        for (int seed : seeds) {
            FallMarket m = Check.of("fruit a 1 1 1; buyer b 1 0 50; buyer c 9 0 50; falls=30; ripens=0; seed " + seed + ";");
            int times = 0;
            for (int s = 1; s <= 20; s++) {
                times += HourTest.lot(seed + s - 1, 0) < 30 ? 1 : 0;
                Check.due("seed " + seed + ", year(0, 0, 1, " + s + ")", times, m.year(0, 0, 1, s));
                Check.due("year(1, 0, 1, " + s + ")", 0, m.year(1, 0, 1, s));
            }
        }
        FallMarket m = Check.of("fruit a 1 1 1; buyer b 1 0 50; worth=1; falls=if hour<59 then 0 else 100;");
        Check.due("in 59 hours", 0, m.year(0, 0, 59, 20));
        Check.due("in 60 hours", 20, m.year(0, 0, 60, 20));
        Check.due("in 60 hours, one seed", 1, m.year(0, 0, 60, 1));
        m = Check.of("fruit a 1 1 1; buyer b 1 0 50; falls=100;");
        Check.due("in 0 hours", 0, m.year(0, 0, 0, 20));
        m.hours(1);
        Check.due("in 0 hours, his already", 20, m.year(0, 0, 0, 20));
        // From the ground, too.
        m = Check.of("fruit a 1 1 1; buyer b 2 0 50; falls=100; bounces=1;");
        Check.due("lies", 0, m.year(0, 0, 1, 20));
        Check.due("bought", 20, m.year(0, 0, 2, 20));
        // The text's seed is as it was.
        m = Check.of("fruit a 1 1 1; buyer b 1 0 50; falls=43; ripens=0;");
        m.year(0, 0, 60, 20);
        Check.due("by seed 0, lot 42", 2, m.then(0, 1, 0));
    }

    private static void yearOfNoSuch() {
        FallMarket m = Check.of("fruit a 1 1 1; buyer b 1 0 50;");
        int[] odd = {LEAST, -1, 1, 7, GREATEST};
        for (int i : odd) {
            Check.due("year(" + i + ", 0, 1, 1)", -1, m.year(i, 0, 1, 1));
            Check.due("year(0, " + i + ", 1, 1)", -1, m.year(0, i, 1, 1));
        }
        int[] seeds = {LEAST, -1, 0, 21, 22, GREATEST};
        for (int s : seeds) {
            Check.due("year(0, 0, 1, " + s + ")", -1, m.year(0, 0, 1, s));
        }
    }

    /** "What would be (nothing happens ..)". */
    private static void nothingHappens() {
        Check.inVain("what would be", AheadEdgeTest::wellUsed, m -> {
            for (int i = 0; i < 3; i++) {
                m.hangsOn(i, 4, true);
                m.mean(i % 2, 3 * i, 4);
                m.stand(i % 2, 4, 1);
                m.props(i + 1, 1);
                m.shakes(i, 100);
                m.passes(i, 20);
                m.windIn(60);
                m.next(false);
                m.catcher(i);
                m.then(i, 60, 0);
                m.paid(i % 2, 60);
                m.much(60, i);
                m.last(i % 2);
                m.asleep();
                m.year(i % 2, i, 60, 20);
                m.rows(i);
                m.sure(i, 0);
                m.ask(i);
            }
        });
    }

    private static FallMarket wellUsed() {
        FallMarket m = Check.of("fruit a 3 4 40; fruit b 7 2 20; fruit e 5 2 0; buyer c 3 1 90; buyer d 9 0 5; falls=ripe+shaken*5; "
            + "keeps 1; seed 4; fine 5; found=60; bounces=high-3; wind=hour;");
        m.hold(2);
        m.hours(1);
        m.shake(2);
        m.hold(0);
        m.prop(2, true);
        m.tell(2, 6);
        m.tell(2, 4);
        m.feed('s' << 24 | 'e' << 16 | 'e' << 8 | 'd', ' ' << 24 | '1' << 16 | ';' << 8 | ' ', '?' << 24, 0, 0);
        return m;
    }
}
