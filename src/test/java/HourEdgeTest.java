/**
 * Part II of the terms as far as hours and what is done by hand go, and promises 6, 7, 9 to 13, 22 and 34 to 36:
 * just enough and one too few, just there and one beside, of alike ones the first, the empty and the full.
 */
public final class HourEdgeTest {
    private static final int GREATEST = Integer.MAX_VALUE;
    private static final int LEAST = Integer.MIN_VALUE;

    public static void main(String[] args) {
        lyingJustAtItsX();
        lyingFirstWithCoins();
        lyingCoinsJustEnough();
        lyingKeeps();
        caughtWithinReach();
        caughtCoinsJustEnough();
        caughtByTheNearest();
        caughtByTheFirstOfAlike();
        liesWithin0And9();
        ripeWithin0And99();
        ripensUnlessItFalls();
        worthOf0And99();
        coinsAsItGoes();
        lawsAsTheHourBegan();
        fallenIsNotYetLying();
        nextHour();
        shakenIsOfThisHour();
        goneElsewhere();
        proppedOrNot();
        shakenByHand();
        hoursUpTo48();
        undoneUpTo40();
        undoneIsNoThingDone();
        undoneAndHeldAsItWas();
        slots();
        slotsKeepNeitherToldNorTape();
        fruitSeen();
        buyerSeen();
        catcherAsIfItHung();
        countsOfTheEmptyAndTheFull();
        calls512();
        Check.end("HourEdgeTest");
    }

    /** "if a BUYER stands just at its X": beside it he does not buy, however far he reaches. */
    private static void lyingJustAtItsX() {
        for (int x = 0; x <= 9; x++) {
            // It falls at 0 with nobody near, lies at 6, and is looked at in the hour behind.
            FallMarket m = Check.of("fruit a 0 1 5; buyer b 9 3 99; falls=100; bounces=6;");
            m.hours(1);
            Check.due("lies at", 6, m.fruit(0, 0));
            m.go(0, x);
            m.hours(1);
            Check.due("buyer at " + x, x == 6 ? 2 : 1, m.fruit(0, 3));
            Check.due("to whom", x == 6 ? 0 : -2, m.fruit(0, 4));
            Check.due("has lain", x == 6 ? 0 : 1, m.fruit(0, 5));
            Check.due("coins", x == 6 ? 94 : 99, m.buyer(0, 2));
        }
        // Just at it with a reach of 0; where it hung does not count.
        FallMarket m = Check.of("fruit a 0 1 5; buyer b 6 0 99; buyer c 1 0 99; falls=100; bounces=6;");
        m.hours(1);
        m.go(1, 0);
        m.hours(1);
        Check.due("bought where it lies", 0, m.fruit(0, 4));
    }

    /** "(the first one who has COINS for its WORTH)". */
    private static void lyingFirstWithCoins() {
        int[][] coins = {{5, 5, 5, 5, 0}, {4, 5, 5, 5, 1}, {4, 4, 5, 5, 2}, {0, 4, 4, 5, 3}, {4, 4, 4, 4, -2}, {4, 999, 5, 5, 1}};
        for (int[] row : coins) {
            String text = "fruit a 0 1 5; falls=100; bounces=6;";
            for (int b = 0; b < 4; b++) {
                text += "buyer " + (char) ('p' + b) + " 6 3 " + row[b] + ";";
            }
            FallMarket m = Check.of(text);
            m.hours(2);
            Check.due("bought by", row[4], m.fruit(0, 4));
            for (int b = 0; b < 4; b++) {
                Check.due("coins of " + b, b == row[4] ? row[b] - 5 : row[b], m.buyer(b, 2));
                Check.due("bought by " + b, b == row[4] ? 1 : 0, m.buyer(b, 3));
            }
        }
    }

    /** COINS just enough and one too few, for what lies: WORTH as it has lain so far. */
    private static void lyingCoinsJustEnough() {
        for (int coins = 0; coins <= 12; coins++) {
            FallMarket m = Check.of("fruit a 0 1 5; falls=100; bounces=6; worth=12-lay; keeps 99; buyer b 6 0 " + coins + ";");
            m.hours(1);
            int hours = 12 - coins;
            for (int n = 0; n < hours; n++) {
                m.hours(1);
            }
            Check.due("one coin too few", 1, m.fruit(0, 3));
            Check.due("has lain", hours, m.fruit(0, 5));
            m.hours(1);
            Check.due("just enough", 2, m.fruit(0, 3));
            Check.due("nothing is left", 0, m.buyer(0, 2));
            Check.due("had lain", hours, m.fruit(0, 5));
        }
        FallMarket m = Check.of("fruit a 0 1 5; falls=100; bounces=6; worth=0; buyer b 6 0 0;");
        m.hours(2);
        Check.due("for nothing, with nothing", 0, m.fruit(0, 4));
    }

    /** "it has lain 1 hour more, and if that is more than KEEPS, it is ROTTEN": and bought in its last hour. */
    private static void lyingKeeps() {
        for (int keeps = 0; keeps <= 3; keeps++) {
            for (int come = 1; come <= 5; come++) {
                FallMarket m = Check.of("fruit a 0 1 5; falls=100; bounces=6; buyer b 9 0 50; keeps " + keeps + ";");
                m.hours(come);
                m.go(0, 6);
                m.hours(1);
                // Behind come hours it has lain come less 1; that many more than keeps, and it was rotten.
                boolean inTime = come - 1 <= keeps;
                Check.due("keeps " + keeps + ", come in " + come, inTime ? 2 : 3, m.fruit(0, 3));
                Check.due("had lain", inTime ? come - 1 : keeps + 1, m.fruit(0, 5));
                Check.due("rotten bits", inTime ? 0 : 1, m.count(7));
            }
        }
        FallMarket m = Check.of("fruit a 0 1 5; falls=100; keeps 0; buyer b 9 0 50;");
        m.hours(2);
        m.go(0, 0);
        m.hours(48);
        Check.due("rotten is never bought", 3, m.fruit(0, 3));
        Check.due("nor does it lie on", 1, m.fruit(0, 5));
    }

    /** "within his REACH": 0 .. 3, just so far and one too far, on both sides. */
    private static void caughtWithinReach() {
        for (int reach = 0; reach <= 3; reach++) {
            for (int x = 0; x <= 9; x++) {
                FallMarket m = Check.of("fruit a 4 1 5; falls=100; buyer b " + x + " " + reach + " 50;");
                boolean reaches = x >= 4 - reach && x <= 4 + reach;
                Check.due("catcher at " + x + " by " + reach, reaches ? 0 : -2, m.catcher(0));
                m.hours(1);
                Check.due("falls, buyer at " + x + " by " + reach, reaches ? 2 : 1, m.fruit(0, 3));
                Check.due("coins", reaches ? 45 : 50, m.buyer(0, 2));
            }
        }
        Check.due("at 0 from 3", 0, Check.of("fruit a 0 1 5; buyer b 3 3 50;").catcher(0));
        Check.due("at 9 from 6", 0, Check.of("fruit a 9 1 5; buyer b 6 3 50;").catcher(0));
        Check.due("at 9 from 0: it is a row, no ring", -2, Check.of("fruit a 9 1 5; buyer b 0 3 50;").catcher(0));
    }

    /** "who has COINS for its WORTH": just enough, one too few, 0 and 999. */
    private static void caughtCoinsJustEnough() {
        int[] worths = {0, 1, 50, 98, 99};
        for (int worth : worths) {
            int[] coins = {worth - 1, worth, worth + 1, 999};
            for (int has : coins) {
                if (has >= 0) {
                    FallMarket m = Check.of("fruit a 4 1 5; falls=100; worth=" + worth + "; buyer b 4 0 " + has + ";");
                    Check.due("worth " + worth + ", coins " + has, has >= worth ? 0 : -2, m.catcher(0));
                    m.hours(1);
                    Check.due("sold", has >= worth ? 2 : 1, m.fruit(0, 3));
                    Check.due("coins left", has >= worth ? has - worth : has, m.buyer(0, 2));
                }
            }
        }
    }

    /** "CAUGHT by the BUYER nearest to its X": of those who reach it and can pay. */
    private static void caughtByTheNearest() {
        Check.due("the nearest", 1, Check.of("fruit a 4 1 5; buyer b 6 3 9; buyer c 5 3 9; buyer d 1 3 9;").catcher(0));
        Check.due("on the other side", 2, Check.of("fruit a 4 1 5; buyer b 6 3 9; buyer c 7 3 9; buyer d 3 3 9;").catcher(0));
        Check.due("the nearest does not reach", 0, Check.of("fruit a 4 1 5; buyer b 6 2 9; buyer c 5 0 9;").catcher(0));
        Check.due("the nearest cannot pay", 0, Check.of("fruit a 4 1 5; buyer b 6 2 5; buyer c 4 3 4;").catcher(0));
        Check.due("under it", 3, Check.of("fruit a 4 1 5; buyer b 5 3 9; buyer c 3 3 9; buyer d 5 3 9; buyer e 4 0 9;").catcher(0));
        Check.due("none of four", -2, Check.of("fruit a 4 1 5; buyer b 5 0 9; buyer c 3 0 9; buyer d 4 3 4; buyer e 8 3 9;").catcher(0));
        Check.due("no buyers", -2, Check.of("fruit a 4 1 5;").catcher(0));
    }

    /** "of alike ones the first": on both sides, and at one place. */
    private static void caughtByTheFirstOfAlike() {
        Check.due("left and right", 0, Check.of("fruit a 4 1 5; buyer b 3 3 9; buyer c 5 3 9;").catcher(0));
        Check.due("right and left", 0, Check.of("fruit a 4 1 5; buyer b 5 3 9; buyer c 3 3 9;").catcher(0));
        Check.due("at one place", 0, Check.of("fruit a 4 1 5; buyer b 4 0 9; buyer c 4 3 99;").catcher(0));
        Check.due("the first of the nearest", 1, Check.of("fruit a 4 1 5; buyer b 7 3 9; buyer c 5 3 9; buyer d 3 3 9; buyer e 5 3 9;").catcher(0));
        Check.due("the first cannot pay", 1, Check.of("fruit a 4 1 5; buyer b 3 3 4; buyer c 5 3 9;").catcher(0));
    }

    /** "it lies at its X and as much as it BOUNCES (0 .. 9 at most)". */
    private static void liesWithin0And9() {
        int[] bounces = {-99, -9, -1, 0, 1, 9, 99};
        for (int x = 0; x <= 9; x++) {
            for (int far : bounces) {
                FallMarket m = Check.of("fruit a " + x + " 1 5; falls=100; bounces=" + (far < 0 ? "0-" + -far : "" + far) + ";");
                m.hours(1);
                Check.due("from " + x + " by " + far, Math.max(0, Math.min(9, x + far)), m.fruit(0, 0));
            }
        }
    }

    /** "RIPENS (0 to 99)": at both ends, one ahead of them, and far beyond. */
    private static void ripeWithin0And99() {
        int[] ripes = {0, 1, 8, 9, 10, 50, 89, 90, 91, 98, 99};
        int[] ripens = {-9, -1, 0, 1, 9};
        for (int ripe : ripes) {
            for (int more : ripens) {
                FallMarket m = Check.of("fruit a 1 1 " + ripe + "; falls=0; ripens=" + (more < 0 ? "0-" + -more : "" + more) + ";");
                m.hours(1);
                Check.due(ripe + " ripens by " + more, Math.max(0, Math.min(99, ripe + more)), m.fruit(0, 2));
                m.hours(48);
                Check.due(ripe + " in 49 hours", Math.max(0, Math.min(99, ripe + 49 * more)), m.fruit(0, 2));
            }
        }
    }

    /** "All else RIPENS": what falls stays as ripe as it was, caught or not, and is asked so. */
    private static void ripensUnlessItFalls() {
        FallMarket m = Check.of("fruit a 1 1 20; fruit b 8 1 20; fruit c 5 2 20; buyer d 1 0 99; ripens=5; falls=if high<2 then 100 else 0; keeps 9;");
        m.hours(1);
        Check.due("caught", 20, m.fruit(0, 2));
        Check.due("paid as the hour began", 79, m.buyer(0, 2));
        Check.due("lying", 20, m.fruit(1, 2));
        Check.due("hanging", 25, m.fruit(2, 2));
        m.hours(1);
        Check.due("caught", 20, m.fruit(0, 2));
        Check.due("lying on", 20, m.fruit(1, 2));
        Check.due("hanging on", 30, m.fruit(2, 2));
        Check.due("ripe of all that hangs", 30, m.count(17));
    }

    /** What is worth 0 is bought with no coins; 99 is the most that is paid. */
    private static void worthOf0And99() {
        FallMarket m = Check.of("fruit a 1 1 1; fruit b 1 1 1; buyer d 1 0 0; falls=100; worth=0-5;");
        m.hours(1);
        Check.due("both bought for nothing", 3, m.buyer(0, 3));
        Check.due("no coins", 0, m.buyer(0, 2));
        m = Check.of("fruit a 1 1 1; buyer d 1 0 999; falls=100; worth=9999;");
        m.hours(1);
        Check.due("99 paid", 900, m.buyer(0, 2));
        String seven = "buyer x 1 0 999; falls=100; worth=99;";
        for (int i = 0; i < 7; i++) {
            seven += "fruit " + (char) ('a' + i) + " 1 1 1;";
        }
        m = Check.of(seven);
        m.hours(1);
        Check.due("seven bought", 127, m.buyer(0, 3));
        Check.due("7 times 99 paid", 999 - 693, m.buyer(0, 2));
        Check.due("how much was sold", 7, m.count(18));
    }

    /** "COINS .. as it goes": what is bought first leaves too few for the next, FRUIT by number. */
    private static void coinsAsItGoes() {
        FallMarket m = Check.of("fruit a 1 1 5; fruit b 1 1 5; fruit c 1 1 5; buyer d 1 0 14; falls=100;");
        m.hours(1);
        Check.due("two bought", 3, m.buyer(0, 3));
        Check.due("the third lies", 4, m.count(5));
        Check.due("coins left", 4, m.buyer(0, 2));
        m = Check.of("fruit a 1 1 9; fruit b 1 1 6; fruit c 1 1 5; buyer d 1 0 14; falls=100;");
        m.hours(1);
        Check.due("9, not 6 then, but 5", 5, m.buyer(0, 3));
        // What lies is sold by number, ahead of all that falls.
        m = Check.of("fruit a 6 1 5; fruit b 0 2 5; fruit c 0 2 5; buyer d 6 0 9; falls=if hour<1 then (high-1)*100 else 100; bounces=6;");
        m.hours(2);
        Check.due("b, which lies", 2, m.buyer(0, 3));
        Check.due("a falls and lies with c", 5, m.count(5));
        Check.due("c has lain on", 1, m.fruit(2, 5));
        Check.due("a has not", 0, m.fruit(0, 5));
        // A nearer one who has spent his coins on what lay lets the next one catch.
        m = Check.of("fruit a 0 2 5; fruit b 6 1 5; buyer d 6 0 9; buyer e 7 1 9; falls=if hour<1 then (high-1)*100 else 100; bounces=6;");
        m.hours(2);
        Check.due("a to", 0, m.fruit(0, 4));
        Check.due("b to", 1, m.fruit(1, 4));
    }

    /** "LAWS are asked by how all was as the hour began": left and wind do not change while it goes. */
    private static void lawsAsTheHourBegan() {
        FallMarket m = Check.of("fruit a 1 1 5; fruit b 2 1 5; fruit c 3 1 5; wind=left; falls=if blows<3 then 0 else 100; bounces=left; worth=left;");
        m.hours(1);
        Check.due("all three fall", 7, m.count(5));
        for (int i = 0; i < 3; i++) {
            Check.due("lies at", i + 4, m.fruit(i, 0));
        }
        Check.due("wind then", 0, m.count(3));
        m = Check.of("fruit a 1 1 5; fruit b 1 1 5; falls=100; worth=left*10; buyer d 1 0 40;");
        m.hours(1);
        Check.due("both for 20", 0, m.buyer(0, 2));
        // The ripening of one does not count for another, nor for its own bounce.
        m = Check.of("fruit a 1 1 0; fruit b 1 2 0; falls=if hour<1 then (high-1)*100 else 100; ripens=left; bounces=ripe;");
        m.hours(2);
        Check.due("a ripened by the 2 that hung", 2, m.fruit(0, 2));
        Check.due("a bounced by 2", 3, m.fruit(0, 0));
        Check.due("b bounced by 0", 1, m.fruit(1, 0));
    }

    /** First what lies, then what falls: what falls in an hour is bought from the ground in the next at the earliest. */
    private static void fallenIsNotYetLying() {
        FallMarket m = Check.of("fruit a 0 1 5; buyer b 6 0 50; falls=100; bounces=6; keeps 0;");
        m.hours(1);
        Check.due("lies under his nose", 1, m.fruit(0, 3));
        Check.due("has not lain yet", 0, m.fruit(0, 5));
        m.hours(1);
        Check.due("bought", 2, m.fruit(0, 3));
        Check.due("sold at once, it has not lain", 0, m.fruit(0, 5));
    }

    /** "It is the next hour": with no fruit at all, too. */
    private static void nextHour() {
        FallMarket m = new FallMarket();
        for (int n = 1; n <= 3; n++) {
            Check.due("hours(1)", n, m.hours(1));
            Check.due("the hour", n, m.count(2));
        }
    }

    /** "shaken is 0 for all": for what fell, too. */
    private static void shakenIsOfThisHour() {
        FallMarket m = Check.of("fruit a 1 1 5; fruit b 1 2 5; falls=(high-1)*100+shaken;");
        m.shake(0);
        m.shake(1);
        m.shake(1);
        Check.due("a", 1, m.fruit(0, 7));
        Check.due("b", 2, m.fruit(1, 7));
        Check.due("hours(0) is no hour", 0, m.hours(0));
        Check.due("b", 2, m.fruit(1, 7));
        m.hours(1);
        Check.due("a", 0, m.fruit(0, 7));
        Check.due("b", 0, m.fruit(1, 7));
        Check.due("in all", 3, m.count(12));
    }

    /** go: "false, and nothing happens: it is there, no such ones". */
    private static void goneElsewhere() {
        FallMarket m = Check.of("buyer a 5 0 1; buyer b 5 0 1;");
        for (int x = 0; x <= 9; x++) {
            Check.due("go to " + x, x != 5, m.go(0, x));
            Check.due("is at", x == 5 ? 5 : x, m.buyer(0, 0));
            Check.due("there already", false, m.go(0, x));
            Check.due("go back", x != 5, m.go(0, 5));
        }
        Check.due("the other has not moved", 5, m.buyer(1, 0));
        Check.due("18 things done", 18, m.count(9));
        int[] odd = {LEAST, -10, -1, 10, 11, GREATEST};
        for (int x : odd) {
            Check.due("go to " + x, false, m.go(1, x));
        }
        int[] who = {LEAST, -1, 2, 4, GREATEST};
        for (int b : who) {
            Check.due("go of " + b, false, m.go(b, 1));
        }
        Check.due("18 things done still", 18, m.count(9));
    }

    /** prop: "false, and nothing happens: it is so, it does not hang, no such one". */
    private static void proppedOrNot() {
        FallMarket m = Check.of("fruit a 1 1 5; fruit b 1 2 5; fruit c 1 2 5; falls=(high-1)*100; buyer d 1 0 5; keeps 0;");
        Check.due("not propped, it is so", false, m.prop(0, false));
        Check.due("propped", true, m.prop(0, true));
        Check.due("propped, it is so", false, m.prop(0, true));
        Check.due("no more", true, m.prop(0, false));
        Check.due("not propped, it is so", false, m.prop(0, false));
        Check.due("b propped", true, m.prop(1, true));
        m.hours(1);
        Check.due("b is sold", 2, m.fruit(1, 3));
        Check.due("c lies", 1, m.fruit(2, 3));
        for (int i = 1; i < 3; i++) {
            Check.due("it does not hang", false, m.prop(i, true));
            Check.due("it does not hang", false, m.prop(i, false));
        }
        m.hours(1);
        Check.due("c is rotten", 3, m.fruit(2, 3));
        Check.due("it does not hang", false, m.prop(2, true));
        int[] none = {LEAST, -1, 3, 7, GREATEST};
        for (int i : none) {
            Check.due("no such one", false, m.prop(i, true));
            Check.due("no such one", false, m.prop(i, false));
        }
        Check.due("things done", 5, m.count(9));
        Check.due("none that hangs is propped", 0, m.count(16));
    }

    /** shake: "-2, and nothing happens: it does not hang; NONE: no such one". */
    private static void shakenByHand() {
        FallMarket m = Check.of("fruit a 1 1 5; fruit b 1 2 5; fruit c 1 2 5; falls=(high-1)*100; buyer d 1 0 5; keeps 0; found=100; fine 99;");
        Check.due("found out", 1, m.shake(0));
        m.hours(1);
        Check.due("sold", -2, m.shake(1));
        Check.due("lies", -2, m.shake(2));
        m.hours(1);
        Check.due("rotten", -2, m.shake(2));
        int[] none = {LEAST, -2, -1, 3, 7, GREATEST};
        for (int i : none) {
            Check.due("no such one", -1, m.shake(i));
        }
        Check.due("shakes so far", 1, m.count(12));
        Check.due("found out", 1, m.count(13));
        Check.due("fines", 99, m.count(14));
        Check.due("things done", 3, m.count(9));
        Check.due("none in a new object", -1, new FallMarket().shake(0));
    }

    /** hours: "n HOURS (0 .. 48; 0 is no thing done) go by: which it is; NONE, and nothing happens: no such n". */
    private static void hoursUpTo48() {
        FallMarket m = Check.of("fruit a 1 1 0; falls=0;");
        Check.due("hours(0)", 0, m.hours(0));
        Check.due("no thing done", 0, m.count(9));
        int[] none = {LEAST, -48, -1, 49, 50, GREATEST};
        for (int n : none) {
            Check.due("hours(" + n + ")", -1, m.hours(n));
            Check.due("the hour", 0, m.count(2));
            Check.due("things done", 0, m.count(9));
        }
        Check.due("hours(1)", 1, m.hours(1));
        Check.due("hours(48)", 49, m.hours(48));
        Check.due("ripe by 49 hours", 49, m.fruit(0, 2));
        Check.due("hours(0)", 49, m.hours(0));
        Check.due("two things done", 2, m.count(9));
        m.undo();
        Check.due("48 hours are one thing", 1, m.count(2));
    }

    /** undo: "false: there is none (the last 40 can be)". */
    private static void undoneUpTo40() {
        for (int done = 39; done <= 42; done++) {
            FallMarket m = Check.of("fruit a 1 1 0; falls=0;");
            for (int n = 0; n < done; n++) {
                m.shake(0);
            }
            int can = Math.min(40, done);
            Check.due("things that can be undone of " + done, can, m.count(9));
            for (int n = 1; n <= can; n++) {
                Check.due("undo " + n + " of " + done, true, m.undo());
                Check.due("shakes left", done - n, m.count(12));
                Check.due("things left", can - n, m.count(9));
            }
            Check.due("undo beyond", false, m.undo());
            Check.due("nothing happens", done - can, m.count(12));
        }
        // Going on from the fullest, again and again.
        FallMarket m = Check.of("fruit a 1 1 0; falls=0;");
        for (int round = 0; round < 4; round++) {
            for (int n = 0; n < 45; n++) {
                m.shake(0);
            }
            Check.due("can be undone", 40, m.count(9));
            for (int n = 0; n < 30; n++) {
                m.undo();
            }
            Check.due("shakes", 15 * (round + 1), m.count(12));
        }
        Check.due("undo of a new object", false, new FallMarket().undo());
    }

    /** Undoing can not itself be undone, and what is done then is the last thing. */
    private static void undoneIsNoThingDone() {
        FallMarket m = Check.of("fruit a 1 1 0; buyer b 1 1 1; falls=0; found=100;");
        m.go(0, 2);
        m.prop(0, true);
        m.shake(0);
        m.hours(3);
        m.undo();
        Check.due("hours undone", 0, m.count(2));
        Check.due("ripe again", 0, m.fruit(0, 2));
        Check.due("shaken still", 1, m.fruit(0, 7));
        m.undo();
        Check.due("shake undone", 0, m.fruit(0, 7));
        Check.due("shakes", 0, m.count(12));
        Check.due("found out", 0, m.count(13));
        Check.due("fines", 0, m.count(14));
        m.hours(5);
        m.undo();
        m.undo();
        Check.due("prop undone", 0, m.fruit(0, 6));
        m.undo();
        Check.due("go undone", 1, m.buyer(0, 0));
        Check.due("no more", false, m.undo());
    }

    /** All that goes on comes back, when none of it is 0 any more: what was found out, how long each has lain. */
    private static void undoneAndHeldAsItWas() {
        for (int way = 0; way < 2; way++) {
            FallMarket m = Check.of("fruit a 1 1 0; fruit b 2 2 0; fruit c 3 2 0; buyer d 9 0 50; buyer e 8 0 60; keeps 9; fine 7; found=100; "
                + "falls=if high<2 then 0 else 100; bounces=high; worth=3;");
            m.shake(0);
            m.shake(0);
            m.go(1, 5);
            m.hours(3);
            m.prop(0, true);
            m.shake(0);
            String was = Check.seen(m);
            int can = m.count(9);
            m.hold(0);
            m.shake(0);
            m.prop(0, false);
            m.go(0, 4);
            m.hours(2);
            if (way == 0) {
                for (int n = 0; n < 4; n++) {
                    m.undo();
                }
            } else {
                m.restore(0);
            }
            String name = way == 0 ? "undone" : "restored";
            Check.due(name + ": things that can be undone", way == 0 ? can : 0, m.count(9));
            Check.due(name + ": found out", 3, m.count(13));
            Check.due(name + ": shakes", 3, m.count(12));
            Check.due(name + ": b has lain", 2, m.fruit(1, 5));
            Check.due(name + ": b lies at", 4, m.fruit(1, 0));
            Check.due(name + ": c was bought", 1, m.fruit(2, 4));
            Check.due(name + ": coins", 57, m.buyer(1, 2));
            Check.due(name + ": stands", 9, m.buyer(0, 0));
            Check.due(name + ": propped", 1, m.fruit(0, 6));
            Check.due(name + ": shaken", 1, m.fruit(0, 7));
            Check.due(name + ": ripe", 3, m.fruit(0, 2));
            Check.due(name + ": all is seen as it was", true, going(Check.seen(m)).equals(going(was)));
        }
    }

    /** What is seen but for how much can be undone and how many slots hold something. */
    private static String going(String seen) {
        String[] words = seen.split(" ");
        words[10] = "";
        words[12] = "";
        return String.join(" ", words);
    }

    /** "a SLOT (0 .. 2): true; false: no such one"; "that stays there; nothing can be undone then". */
    private static void slots() {
        FallMarket m = Check.of("fruit a 1 1 0; falls=0;");
        int[] none = {LEAST, -1, 3, 4, GREATEST};
        for (int slot : none) {
            Check.due("hold(" + slot + ")", false, m.hold(slot));
            Check.due("restore(" + slot + ")", false, m.restore(slot));
        }
        for (int slot = 0; slot < 3; slot++) {
            Check.due("slots", slot, m.count(11));
            Check.due("restore(" + slot + "), nothing is held", false, m.restore(slot));
            m.hours(1);
            Check.due("undoable", slot + 1, m.count(9));
            Check.due("hold(" + slot + ")", true, m.hold(slot));
            Check.due("hold(" + slot + ") once more", true, m.hold(slot));
            Check.due("undoable still", slot + 1, m.count(9));
        }
        Check.due("slots, full", 3, m.count(11));
        for (int slot = 2; slot >= 0; slot--) {
            m.hours(7);
            Check.due("restore(" + slot + ")", true, m.restore(slot));
            Check.due("hour held", slot + 1, m.count(2));
            Check.due("nothing can be undone", 0, m.count(9));
            Check.due("undo", false, m.undo());
            Check.due("hour held", slot + 1, m.count(2));
            Check.due("restore(" + slot + ") again", true, m.restore(slot));
            Check.due("slots", 3, m.count(11));
        }
        // What is held is not what is undone.
        m.hours(4);
        m.hold(1);
        m.undo();
        Check.due("undone behind hold", 1, m.count(2));
        Check.due("restore(1)", true, m.restore(1));
        Check.due("held ahead of undo", 5, m.count(2));
        // A new object holds that it is empty.
        m = new FallMarket();
        Check.due("hold(2) of a new object", true, m.hold(2));
        m.hours(9);
        Check.due("restore(2)", true, m.restore(2));
        Check.due("hour", 0, m.count(2));
    }

    /** "(not what is TOLD, nor the tape)". */
    private static void slotsKeepNeitherToldNorTape() {
        FallMarket m = Check.of("fruit a 1 1 0; falls=0;");
        m.tell(1, 1);
        m.feed(0, 0, 0, 0, 0);
        m.hold(0);
        m.tell(2, 2);
        m.back(7);
        m.restore(0);
        Check.due("told", 2, m.count(10));
        Check.due("tape", 13, m.count(8));
        m.forget();
        m.back(13);
        m.restore(0);
        Check.due("told", 0, m.count(10));
        Check.due("tape", 0, m.count(8));
    }

    /** fruit: each what, hanging, lying, sold and rotten. */
    private static void fruitSeen() {
        FallMarket m = Check.of("fruit a 2 9 30; fruit b 8 1 40; fruit c 5 5 50; fruit d 3 3 7; buyer e 8 0 60; "
            + "falls=if ripe<30 then 0 else 100; bounces=2; keeps 0; ripens=1;");
        m.prop(3, true);
        m.prop(1, true);
        m.hours(1);
        m.shake(3);
        int[][] due = {{4, 9, 30, 1, -2, 0, 0, 0}, {8, 1, 40, 2, 0, 0, 1, 0}, {7, 5, 50, 1, -2, 0, 0, 0}, {3, 3, 8, 0, -2, 0, 1, 1}};
        seen(m, due);
        m.go(0, 4);
        m.hours(1);
        int[][] later = {{4, 9, 30, 1, -2, 0, 0, 0}, {8, 1, 40, 2, 0, 0, 1, 0}, {5, 5, 50, 3, -2, 1, 0, 0}, {3, 3, 9, 0, -2, 0, 1, 0}};
        // The buyer has 20 coins left, a is worth 30: it rots.
        later[0] = new int[] {2, 9, 30, 3, -2, 1, 0, 0};
        seen(m, later);
        Check.due("fruit(0, 8)", -1, m.fruit(0, 8));
        Check.due("fruit(0, -1)", -1, m.fruit(0, -1));
        Check.due("fruit(4, 0)", -1, m.fruit(4, 0));
        Check.due("fruit(-1, 0)", -1, m.fruit(-1, 0));
    }

    private static void seen(FallMarket m, int[][] due) {
        for (int i = 0; i < due.length; i++) {
            for (int what = 0; what < 8; what++) {
                Check.due("fruit(" + i + ", " + what + ")", due[i][what], m.fruit(i, what));
            }
        }
    }

    /** buyer: the bits of what it bought, caught or from the ground, none and all. */
    private static void buyerSeen() {
        FallMarket m = Check.of("fruit a 2 1 1; fruit b 8 1 1; fruit c 2 1 1; buyer d 2 0 9; buyer e 9 0 9; falls=100; bounces=1;");
        Check.due("none yet", 0, m.buyer(0, 3));
        m.hours(2);
        Check.due("a and c", 5, m.buyer(0, 3));
        Check.due("b, from the ground", 2, m.buyer(1, 3));
        Check.due("coins", 7, m.buyer(0, 2));
        Check.due("coins", 8, m.buyer(1, 2));
        Check.due("coins of all", 15, m.count(15));
        Check.due("buyer(0, 4)", -1, m.buyer(0, 4));
        Check.due("buyer(0, -1)", -1, m.buyer(0, -1));
        Check.due("buyer(2, 0)", -1, m.buyer(2, 0));
        Check.due("buyer(-1, 0)", -1, m.buyer(-1, 0));
    }

    /** catcher: "-2: nobody; hanging or not, as if it hung". */
    private static void catcherAsIfItHung() {
        // Each asked of a new object first, and behind another fruit, in another hour.
        String text = "fruit a 2 9 5; fruit b 8 1 90; buyer c 2 0 20; buyer d 8 0 20; falls=0; worth=ripe+hour*high/3;";
        Check.due("first of all, b", -2, Check.of(text).catcher(1));
        Check.due("first of all, a", 0, Check.of(text).catcher(0));
        FallMarket both = Check.of(text);
        Check.due("a", 0, both.catcher(0));
        Check.due("b behind a", -2, both.catcher(1));
        Check.due("a behind b", 0, both.catcher(0));
        both.hours(5);
        Check.due("a, worth 25 by then", -2, both.catcher(0));
        FallMarket m = Check.of("fruit a 2 1 5; fruit b 8 1 5; buyer d 5 0 9; falls=100; bounces=9; worth=5+lay; keeps 1;");
        Check.due("nobody near", -2, m.catcher(0));
        m.hours(3);
        Check.due("rotten", 3, m.fruit(0, 3));
        Check.due("nobody near", -2, m.catcher(0));
        m.go(0, 2);
        Check.due("a, where it hung", 0, m.catcher(0));
        Check.due("b, elsewhere", -2, m.catcher(1));
        m.go(0, 9);
        Check.due("a, not where it lay", -2, m.catcher(0));
        Check.due("nothing happens", 3, m.fruit(0, 3));
        Check.due("coins", 9, m.buyer(0, 2));
        int[] none = {LEAST, -1, 2, 7, GREATEST};
        for (int i : none) {
            Check.due("catcher(" + i + ")", -1, m.catcher(i));
        }
    }

    /** count: every what of the empty object and of the fullest. */
    private static void countsOfTheEmptyAndTheFull() {
        FallMarket m = new FallMarket();
        for (int what = 0; what <= 18; what++) {
            Check.due("empty count(" + what + ")", 0, m.count(what));
        }
        String text = "falls=0; found=100; fine 99; wind=9; ripens=0;";
        for (int i = 0; i < 7; i++) {
            text += "fruit " + (char) ('a' + i) + " 9 9 99;";
        }
        for (int i = 0; i < 4; i++) {
            text += "buyer " + (char) ('p' + i) + " 9 3 999;";
        }
        m = Check.of(text);
        for (int i = 0; i < 7; i++) {
            m.prop(i, true);
            m.shake(i);
            m.tell(9, 9);
        }
        for (int i = 0; i < 30; i++) {
            m.hours(48);
        }
        for (int slot = 0; slot < 3; slot++) {
            m.hold(slot);
        }
        for (int n = 0; n < 100; n++) {
            m.feed(0, 0, 0, 0, 0);
        }
        int[] full = {7, 4, 1440, 9, 127, 0, 0, 0, 2000, 40, 7, 3, 7, 7, 693, 3996, 127, 693, 0};
        for (int what = 0; what <= 18; what++) {
            Check.due("full count(" + what + ")", full[what], m.count(what));
        }
        int[] none = {LEAST, -2, -1, 19, 20, 100, GREATEST};
        for (int what : none) {
            Check.due("count(" + what + ")", -1, m.count(what));
        }
        // All sold, and all rotten.
        m = Check.of(text.replace("falls=0", "falls=100").replace("99;fruit", "1;fruit"));
        m.hours(1);
        Check.due("none hangs", 0, m.count(4));
        Check.due("all sold", 127, m.count(6));
        Check.due("how much was sold", 7, m.count(18));
        Check.due("ripe of none", 0, m.count(17));
        m = Check.of(text.replace("falls=0", "falls=100; keeps 0").replaceAll("buyer [^;]*;", ""));
        m.hours(1);
        Check.due("all lie", 127, m.count(5));
        m.hours(1);
        Check.due("all rotten", 127, m.count(7));
        Check.due("none lies", 0, m.count(5));
        Check.due("none sold", 0, m.count(18));
    }

    /** "An object is used for at most 512 calls": the last of them answers as the first. */
    private static void calls512() {
        FallMarket m = new FallMarket();
        for (int n = 1; n <= 511; n++) {
            m.hours(48);
        }
        Check.due("call 512", 511 * 48, m.count(2));
        m = new FallMarket();
        for (int n = 1; n <= 511; n++) {
            m.hold(n % 3);
        }
        Check.due("call 512", 3, m.count(11));
    }
}
