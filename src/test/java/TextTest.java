/** Promises 1 to 5: a new object, the tape, texts and their faults. */
public final class TextTest {
    public static void main(String[] args) {
        fresh();
        tape();
        order();
        syntax();
        tokens();
        room();
        names();
        numbers();
        settings();
        replaces();
        Check.end("TextTest");
    }

    private static void fresh() {
        FallMarket m = new FallMarket();
        for (int what = 0; what <= 18; what++) {
            Check.due("new count(" + what + ")", 0, m.count(what));
        }
        Check.due("new count(-1)", -1, m.count(-1));
        Check.due("new place()", -1, m.place());
        Check.due("new fruit(0, 0)", -1, m.fruit(0, 0));
        Check.due("new buyer(0, 0)", -1, m.buyer(0, 0));
        Check.due("new undo()", false, m.undo());
        Check.due("new restore(0)", false, m.restore(0));
        Check.due("new rows(0)", 1, m.rows(0));
    }

    private static void tape() {
        FallMarket m = new FallMarket();
        for (int n = 1; n <= 100; n++) {
            Check.due("feed " + n, 20 * n, m.feed(0x20202020, 0x20202020, 0x20202020, 0x20202020, 0x20202020));
        }
        Check.due("feed 101", -1, m.feed(1, 2, 3, 4, 5));
        Check.due("full tape", 2000, m.count(8));
        Check.due("back(-1)", -1, m.back(-1));
        Check.due("back(2001)", -1, m.back(2001));
        Check.due("back(min)", -1, m.back(Integer.MIN_VALUE));
        Check.due("back(max)", -1, m.back(Integer.MAX_VALUE));
        Check.due("back(0)", 2000, m.back(0));
        Check.due("back(19)", 1981, m.back(19));
        Check.due("feed beyond by one", -1, m.feed(1, 2, 3, 4, 5));
        Check.due("back(1)", 1980, m.back(1));
        Check.due("feed to the end", 2000, m.feed(0x20202020, 0x20202020, 0x20202020, 0x20202020, 0x20202020));
        Check.due("read blanks", 0, m.read());
        Check.due("tape behind it", 0, m.count(8));
        Check.due("back(1) of none", -1, m.back(1));
        Check.due("back(0) of none", 0, m.back(0));
    }

    private static void order() {
        FallMarket m = new FallMarket();
        // "seed 1;" comes with the highest byte first, from a to e.
        m.feed('s' << 24 | 'e' << 16 | 'e' << 8 | 'd', ' ' << 24 | '1' << 16 | ';' << 8 | ' ', '!' << 24, 0, 0);
        Check.due("read", 1, m.read());
        Check.due("place of !", 8, m.place());
        m.feed(0, 0, 0, 0, 0);
        Check.due("read zeros", 1, m.read());
        Check.due("place of 0", 0, m.place());
        m.feed(-1, -1, -1, -1, -1);
        Check.due("read 255s", 1, m.read());
        Check.due("read none", 0, m.read());
        Check.due("place of none", -1, m.place());
    }

    private static void syntax() {
        Check.fault("", 0, -1);
        Check.fault(" \t\r\n", 0, -1);
        Check.fault("x", 1, 0);
        Check.fault(";", 1, 0);
        Check.fault("fruit", 1, 5);
        Check.fault("fruit  ", 1, 7);
        Check.fault("fruit f", 1, 7);
        Check.fault("fruit f 1 1 1", 1, 13);
        Check.fault("fruit f 1 1;", 1, 11);
        Check.fault("fruit f 1 1 1 1;", 1, 14);
        Check.fault("fruit 1 1 1;", 1, 6);
        Check.fault("fruit fruit 1 1 1;", 1, 6);
        Check.fault("fruit left 1 1 1;", 1, 6);
        Check.fault("fruit then 1 1 1;", 1, 6);
        Check.fault("buyer b 1 ( 1;", 1, 10);
        Check.fault("wind 1;", 1, 5);
        Check.fault("wind = ;", 1, 7);
        Check.fault("wind = 1 1;", 1, 9);
        Check.fault("wind = - 1;", 1, 7);
        Check.fault("wind = 1 +;", 1, 10);
        Check.fault("wind = 1 < 2;", 1, 9);
        Check.fault("wind = if 1 then 2 else 3;", 1, 12);
        Check.fault("wind = if 1 < 2 < 3 then 2 else 3;", 1, 16);
        Check.fault("wind = if 1 < 2 then 3;", 1, 22);
        Check.fault("wind = if 1 < 2 then if 1 < 2 then 1 else 1 else 3;", 1, 21);
        Check.fault("wind = (if 1 < 2 then 3 else 4);", 1, 8);
        Check.fault("wind = 1 + if 1 < 2 then 3 else 4;", 1, 11);
        Check.fault("wind = (1;", 1, 9);
        Check.fault("wind = 1);", 1, 8);
        Check.fault("wind = ();", 1, 8);
        Check.fault("wind = f;", 1, 7);
        Check.fault("wind = wind;", 1, 7);
        Check.fault("then = 1;", 1, 0);
        Check.fault("fine = 1;", 1, 5);
        Check.fault("fine 1", 1, 6);
        Check.fault("keeps;", 1, 5);
        Check.fault("seed 1; seed", 1, 12);
        Check.fault("wind = 1.", 1, 8);
    }

    private static void tokens() {
        Check.fault("fruit abcdefgh 1 1 1;", 0, -1);
        Check.fault("fruit abcdefghi 1 1 1;", 1, 6);
        Check.fault("seed 9999;", 0, -1);
        Check.fault("seed 00001;", 1, 5);
        Check.fault("seed 0001;", 0, -1);
        Check.fault("seed 1 2;", 1, 7);
        Check.fault("Seed 1;", 1, 0);
        Check.fault("seed 1;?", 1, 7);
        Check.fault("seed\u000b1;", 1, 4);
        Check.fault("seed \u00e9;", 1, 5);
        Check.fault("seed1;fine1;", 0, -1);
        Check.fault("fruitf 1 1 1;", 1, 0);
        Check.fault("fruit f1 1 1;", 0, -1);
        Check.fault("wind=if1<2then3else4;", 0, -1);
        Check.fault("wind=1fine2;", 1, 6);
        Check.fault("wind\t=\r1\n+ 2;", 0, -1);
    }

    private static void room() {
        String seven = "";
        for (int i = 0; i < 7; i++) {
            seven += "fruit " + (char) ('a' + i) + " 1 1 1;";
        }
        Check.fault(seven, 0, -1);
        Check.fault(seven + " fruit h 1 1 1;", 2, seven.length() + 1);
        Check.fault(seven + "fruit fruit", 2, seven.length());
        String four = "buyer w 1 1 1;buyer x 1 1 1;buyer y 1 1 1;buyer z 1 1 1;";
        Check.fault(seven + four, 0, -1);
        Check.fault(four + "buyer v 1 1 1;", 2, four.length());
        String ifs = "wind = " + "if 1 < 2 then 3 else ".repeat(4);
        Check.fault(ifs + "4;", 0, -1);
        Check.fault(ifs + "if 1 < 2 then 3 else 4;", 2, ifs.length());
        Check.fault(ifs + "4;" + ifs + "4;", 0, -1);
        Check.fault("wind=((((((1))))));", 0, -1);
        Check.fault("wind=(((((((1)))))));", 2, 11);
        Check.fault("wind=((((((1))))))+((((((1))))));", 0, -1);
        Check.fault("wind=(((((()(", 1, 11);
        Check.fault("wind=if((((((1))))))<((((((1))))))then((((((1))))))else((((((1))))));", 0, -1);
        Check.fault("wind=if(((((((1)))))))<1then1else1;", 2, 13);
        Check.fault("wind=if 1<(((((((1)))))))then1else1;", 2, 16);
        Check.fault("wind=if 1<1then(((((((1)))))))else1;", 2, 21);
        Check.fault("wind=if 1<1then1else(((((((1)))))));", 2, 26);
        String most = "seed 1;".repeat(133);
        Check.fault(most, 0, -1);
        Check.fault(most + "seed", 1, most.length() + 4);
        Check.fault(most + "seed 1", 2, most.length() + 5);
        Check.fault(most + "seed ;", 1, most.length() + 5);
        Check.fault(most + "seed 11111", 1, most.length() + 5);
        String just = "wind=1;".repeat(100);
        Check.fault(just, 0, -1);
        Check.fault(just + "  ", 0, -1);
        Check.fault(just + " wind", 2, just.length() + 1);
        Check.fault(just + " x", 1, just.length() + 1);
        Check.fault(just + "!", 1, just.length());
        String wide = "wind = 0" + " + 0".repeat(198) + ";";
        Check.fault(wide + ";", 1, wide.length());
        Check.fault(wide, 0, -1);
        Check.fault("wind = 0" + " + 0".repeat(199) + ";", 2, 8 + 4 * 198 + 3);
    }

    private static void names() {
        Check.fault("fruit a 1 1 1; fruit a 1 1 1;", 3, 21);
        Check.fault("fruit a 1 1 1; buyer a 1 1 1;", 3, 21);
        Check.fault("buyer a 1 1 1; buyer a 1 1 1;", 3, 21);
        Check.fault("fruit a 1 1 1; fruit aa 1 1 1;", 0, -1);
        Check.fault("fruit a 1 1 1; fruit a 1 0 1;", 3, 21);
        Check.fault("fruit a 1 0 1; fruit a 1 1 1;", 5, 10);
        Check.fault("fruit a 1 1 1; fruit a 1 1 1; x", 1, 30);
        String many = "";
        for (int i = 0; i < 11; i++) {
            many += (i < 7 ? "fruit " : "buyer ") + (char) ('a' + i) + " 1 1 1;";
            if (i < 6 || i > 6 && i < 10) {
                Check.fault(many + (i < 7 ? "fruit " : "buyer ") + (char) ('a' + i) + " 1 1 1;", 3, many.length() + 6);
            }
        }
    }

    private static void numbers() {
        Check.fault("fruit a 0 1 0; fruit b 9 9 99;", 0, -1);
        Check.fault("fruit a 10 1 0;", 5, 8);
        Check.fault("fruit a 0 0 0;", 5, 10);
        Check.fault("fruit a 0 10 0;", 5, 10);
        Check.fault("fruit a 0 1 100;", 5, 12);
        Check.fault("buyer a 0 0 0; buyer b 9 3 999;", 0, -1);
        Check.fault("buyer a 10 0 0;", 5, 8);
        Check.fault("buyer a 0 4 0;", 5, 10);
        Check.fault("buyer a 0 0 1000;", 5, 12);
        Check.fault("fine 99; keeps 99; seed 9999;", 0, -1);
        Check.fault("fine 0; keeps 0; seed 0;", 0, -1);
        Check.fault("fine 100;", 5, 5);
        Check.fault("keeps 100;", 5, 6);
        Check.fault("fine 100; keeps 100;", 5, 5);
        Check.fault("fine 100; fine 1;", 5, 5);
        Check.fault("fine 100; wind", 1, 14);
        Check.fault("wind = 9999;", 0, -1);
    }

    private static void settings() {
        FallMarket m = Check.of("fruit a 1 1 0; found = 100; falls = 0;");
        m.shake(0);
        Check.due("fine if not told", 10, m.count(14));
        m = Check.of("fine 3; fine 8; fruit a 1 1 0; found = 100; falls = 0;");
        m.shake(0);
        Check.due("the last fine", 8, m.count(14));
        m = Check.of("keeps 1; keeps 2; fruit a 1 1 0; falls = 100;");
        Check.due("keeps 2, lying", 1, m.then(0, 3, 0));
        Check.due("keeps 2, rotten", 3, m.then(0, 4, 0));
        m = Check.of("fruit a 1 1 0; falls = 100;");
        Check.due("keeps 6, lying", 1, m.then(0, 7, 0));
        Check.due("keeps 6, rotten", 3, m.then(0, 8, 0));
        m = Check.of("fruit a 1 5 7;");
        Check.due("falls if not told", 7, m.tells(0, 0));
        Check.due("ripens if not told", 1, m.tells(0, 1));
        Check.due("worth if not told", 7, m.tells(0, 2));
        Check.due("bounces if not told", 0, m.tells(0, 3));
        Check.due("wind if not told", 0, m.count(3));
        m = Check.of("wind = 3; wind = 5;");
        Check.due("the last wind", 5, m.count(3));
    }

    private static void replaces() {
        FallMarket m = Check.of("fruit a 1 1 1; fruit b 2 1 1; buyer c 3 1 9; falls = 0; found = 100;");
        m.hours(3);
        m.shake(0);
        m.hold(1);
        m.tell(1, 1);
        Check.type(m, "fruit x 1 1 1; ?");
        Check.due("faulty read", 1, m.read());
        Check.due("place", 15, m.place());
        int[] same = {2, 1, 3, 0, 3, 0, 0, 0, 0, 2, 1, 1, 1, 1, 10, 9, 0, 8, 0};
        for (int what = 0; what <= 18; what++) {
            Check.due("count(" + what + ") behind a faulty read", same[what], m.count(what));
        }
        Check.type(m, "fruit a 5 2 3;");
        Check.due("good read", 0, m.read());
        Check.due("place", -1, m.place());
        int[] anew = {1, 0, 0, 0, 1, 0, 0, 0, 0, 0, 0, 0, 0, 0, 0, 0, 0, 3, 0};
        for (int what = 0; what <= 18; what++) {
            Check.due("count(" + what + ") behind a good read", anew[what], m.count(what));
        }
        Check.due("law of the older text", 3, m.tells(0, 0));
        Check.due("restore", false, m.restore(1));
        Check.due("undo", false, m.undo());
        Check.due("read of nothing", 0, m.read());
        Check.due("no fruit", 0, m.count(0));
        // Nothing of the texts ahead is left, however many there were.
        for (int n = 0; n < 100; n++) {
            // An object is used for at most 512 calls: some 20 rounds.
            m = n % 20 == 0 ? new FallMarket() : m;
            Check.type(m, "fruit a 1 1 1; worth = if 1 < 2 then 1 + 2 + 3 + 4 + 5 + " + n % 50 + " else 1 * 1 * 1 * 1;");
            Check.due("read " + n, 0, m.read());
            Check.due("worth " + n, 15 + n % 50, m.tells(0, 2));
            Check.type(m, "fruit a 1 1 1; worth = 7; fruit a 1 1 1;");
            Check.due("read of twice " + n, 3, m.read());
            Check.due("worth " + n, 15 + n % 50, m.tells(0, 2));
        }
    }
}
