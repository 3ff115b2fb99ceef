/**
 * Part I of the terms and promises 1 to 5, a test for each sentence that names a boundary: the least and the
 * greatest, one beyond each, the empty and the full, and of two faults the one that is told.
 */
public final class TextEdgeTest {
    private static final String[] WORDS = {"fruit", "buyer", "wind", "ripens", "falls", "worth", "bounces", "found", "fine", "keeps",
        "seed", "if", "then", "else", "ripe", "high", "hour", "blows", "across", "shaken", "propped", "lay", "left"};
    private static final String SEVEN = "fruit a 1 1 1;fruit b 1 1 1;fruit c 1 1 1;fruit d 1 1 1;fruit e 1 1 1;fruit f 1 1 1;fruit g 1 1 1;";
    private static final String FOUR = "buyer w 1 1 1;buyer x 1 1 1;buyer y 1 1 1;buyer z 1 1 1;";
    /** 400 tokens, no more. */
    private static final String FULL = "wind=1;".repeat(100);
    /** 399 tokens. */
    private static final String ALMOST = "seed 1;".repeat(133);

    public static void main(String[] args) {
        fedUpTo2000();
        goneBackTo0();
        bytesFromTheHighest();
        textOf2000Bytes();
        emptyText();
        blanks();
        everyByte();
        lettersOfNames();
        namesOf8Letters();
        wordsAreNoNames();
        varsAlone();
        intsOf4Digits();
        longestThatCanBe();
        numbersOfFruit();
        numbersOfBuyers();
        fines();
        keeps();
        seeds();
        numberedAsTheyStand();
        sevenFruit();
        fourBuyers();
        tokens400();
        fourIfs();
        sixOpen();
        textsEnd();
        firstByPlace();
        leastOfOnePlace();
        namesTwice();
        wrongNumbers();
        hardAheadOfSoft();
        faultChangesNothing();
        newTextChangesAll();
        textsInTurn();
        placeOfTheLatest();
        lawsNotTold();
        Check.end("TextEdgeTest");
    }

    private static int feed(FallMarket m, String twenty) {
        return m.feed(Check.four(twenty, 0), Check.four(twenty, 4), Check.four(twenty, 8), Check.four(twenty, 12), Check.four(twenty, 16));
    }

    /** "NONE, and nothing comes, if it would have more than 2,000." */
    private static void fedUpTo2000() {
        String blank = " ".repeat(20);
        for (int less = 0; less <= 20; less++) {
            FallMarket m = new FallMarket();
            for (int n = 1; n <= 100; n++) {
                Check.due("feed " + n, 20 * n, feed(m, blank));
            }
            Check.due("back(" + less + ")", 2000 - less, m.back(less));
            Check.due("feed onto " + (2000 - less), less == 20 ? 2000 : -1, feed(m, "?".repeat(20)));
            Check.due("bytes on the tape", less == 20 ? 2000 : 2000 - less, m.count(8));
            Check.due("read: nothing has come", less == 20 ? 1 : 0, m.read());
            Check.due("place", less == 20 ? 1980 : -1, m.place());
            Check.due("feed onto none", 20, feed(m, blank));
        }
    }

    /** "NONE, and nothing goes, if it has not so many, or n is below 0." */
    private static void goneBackTo0() {
        FallMarket m = new FallMarket();
        Check.due("back(0) of an empty tape", 0, m.back(0));
        Check.due("back(1) of an empty tape", -1, m.back(1));
        feed(m, "seed 1; seed 2; !!!!");
        int[] refused = {21, 22, 2000, Integer.MAX_VALUE, -1, -20, Integer.MIN_VALUE};
        for (int n : refused) {
            Check.due("back(" + n + ") of 20", -1, m.back(n));
            Check.due("nothing goes", 20, m.count(8));
        }
        Check.due("back(0)", 20, m.back(0));
        Check.due("back(4)", 16, m.back(4));
        Check.due("back(17)", -1, m.back(17));
        Check.due("read", 0, m.read());
        feed(m, "?".repeat(20));
        Check.due("back(20), all", 0, m.back(20));
        Check.due("read of nothing", 0, m.read());
        // What went is not there when others come.
        feed(m, "seed 1; ????????????");
        m.back(12);
        feed(m, "seed 2; " + " ".repeat(12));
        Check.due("read", 0, m.read());
    }

    /** "Twenty bytes, the highest of a first": each byte in turn is the faulty one. */
    private static void bytesFromTheHighest() {
        for (int at = 0; at < 20; at++) {
            FallMarket m = new FallMarket();
            feed(m, " ".repeat(at) + "?" + " ".repeat(19 - at));
            Check.due("read", 1, m.read());
            Check.due("place of the byte", at, m.place());
        }
        FallMarket m = new FallMarket();
        m.feed(0x73656564, 0x20390a0d, 0x093b6675, 0x80000000, -1);
        Check.due("read of bytes above 127", 1, m.read());
        Check.due("place of fu, which no text goes on with", 10, m.place());
    }

    /** "A TEXT has 2,000 bytes at most." */
    private static void textOf2000Bytes() {
        String last = "fruit a 9 9 99;";
        FallMarket m = Check.of(" ".repeat(2000 - last.length()) + last);
        Check.due("ripe, told by the last bytes", 99, m.fruit(0, 2));
        Check.fault(last + " ".repeat(2000 - last.length()), 0, -1);
        Check.fault(" ".repeat(1999) + "?", 1, 1999);
        Check.fault(" ".repeat(1999) + ";", 1, 1999);
        Check.fault("seed" + " ".repeat(1996), 1, 2000);
        Check.fault(" ".repeat(1996) + "seed", 1, 2000);
        Check.fault("a".repeat(2000), 1, 0);
        Check.fault("1".repeat(2000), 1, 0);
        Check.fault("(".repeat(2000), 1, 0);
        Check.fault("wind=" + "(".repeat(1995), 2, 11);
        Check.fault("seed " + "1".repeat(1995), 1, 5);
        Check.fault("fruit " + "a".repeat(1994), 1, 6);
    }

    /** "text: {TELL}": none at all is one. */
    private static void emptyText() {
        Check.fault("", 0, -1);
        Check.fault(" ", 0, -1);
        Check.fault("\t\n\r ", 0, -1);
        Check.fault(" ".repeat(2000), 0, -1);
        FallMarket m = Check.of("fruit a 1 1 1; buyer b 1 1 1;");
        Check.due("read of an empty tape", 0, m.read());
        Check.due("no fruit", 0, m.count(0));
        Check.due("no buyers", 0, m.count(1));
    }

    /** "with blanks (9, 10, 13, 32) between or not": one more or less than each is none. */
    private static void blanks() {
        int[] blank = {9, 10, 13, 32};
        for (int b : blank) {
            Check.fault("seed" + (char) b + "1" + (char) b + ";" + (char) b, 0, -1);
        }
        int[] none = {8, 11, 12, 14, 31, 33, 0, 128 + 9, 160};
        for (int b : none) {
            Check.fault("seed" + (char) b + "1;", 1, 4);
            Check.fault("seed 1;" + (char) b, 1, 7);
        }
        Check.fault("fruit a 1 2 3;buyer b 1 2 3;fine 1;", 0, -1);
        Check.fault("fruit\na\n1\n2\n3\n;\n", 0, -1);
    }

    /** "A longer one, all else, is no TOKEN": what each of the 256 bytes does. */
    private static void everyByte() {
        for (int b = 0; b < 256; b++) {
            char c = (char) b;
            boolean isBlank = b == 9 || b == 10 || b == 13 || b == 32;
            boolean isDigit = c >= '0' && c <= '9';
            boolean isLetter = c >= 'a' && c <= 'z';
            Check.fault("" + c, isBlank ? 0 : 1, isBlank ? -1 : 0);
            boolean goesOn = isBlank || isDigit;
            Check.fault("seed" + c + "1;", goesOn ? 0 : 1, goesOn ? -1 : isLetter ? 0 : 4);
            Check.fault("seed 1" + c + ";", goesOn ? 0 : 1, goesOn ? -1 : c == ';' ? 7 : 6);
            boolean joins = "+-*/".indexOf(c) >= 0 || goesOn;
            Check.fault("wind=1" + c + "1;", joins && !isBlank ? 0 : 1, joins && !isBlank ? -1 : isBlank || c == ';' ? 7 : 6);
        }
    }

    /** "letters a .. z". */
    private static void lettersOfNames() {
        Check.fault("fruit a 1 1 1; fruit z 1 1 1;", 0, -1);
        Check.fault("fruit az 1 1 1;", 0, -1);
        char[] beyond = {'a' - 1, 'z' + 1, 'A', 'Z', '_', 225};
        for (char c : beyond) {
            Check.fault("fruit " + c + " 1 1 1;", 1, 6);
            Check.fault("fruit a" + c + " 1 1 1;", 1, 7);
        }
    }

    /** "8 at most": names of 1 to 8 letters, and of 9 and more. */
    private static void namesOf8Letters() {
        for (int letters = 1; letters <= 8; letters++) {
            Check.fault("fruit " + "q".repeat(letters) + " 1 1 1;", 0, -1);
            Check.fault("buyer " + "q".repeat(letters) + " 1 1 1;", 0, -1);
        }
        for (int letters = 9; letters <= 40; letters++) {
            Check.fault("fruit " + "q".repeat(letters) + " 1 1 1;", 1, 6);
            Check.fault("buyer  " + "q".repeat(letters) + " 1 1 1;", 1, 7);
        }
        Check.fault("fruit abcdefgh 1 1 1; fruit abcdefgi 1 1 1; fruit bbcdefgh 1 1 1; fruit abcdefg 1 1 1;", 0, -1);
        Check.fault("fruit abcdefgh 1 1 1; buyer abcdefgh 1 1 1;", 3, 28);
        Check.fault("fruit aaaaaaaa 1 1 1; fruit aaaaaaa 1 1 1; fruit zzzzzzzz 1 1 1; fruit zzzzzzz 1 1 1;", 0, -1);
    }

    /** "none of the words in quotes": none is a name, one with a letter more or less is. */
    private static void wordsAreNoNames() {
        for (String word : WORDS) {
            Check.fault("fruit " + word + " 1 1 1;", 1, 6);
            Check.fault("buyer " + word + " 1 1 1;", 1, 6);
            Check.fault("fruit x" + word + " 1 1 1;", 0, -1);
            Check.fault("fruit " + word + "x 1 1 1;", 0, -1);
            Check.fault("fruit " + word.substring(1) + " 1 1 1;", 0, -1);
            Check.fault("fruit " + word.substring(0, word.length() - 1) + " 1 1 1;", 0, -1);
        }
    }

    /** "VAR: 'ripe' | .. | 'left'": of all words these nine, and no name. */
    private static void varsAlone() {
        for (int i = 0; i < WORDS.length; i++) {
            boolean isVar = i >= 14;
            boolean isIf = WORDS[i].equals("if");
            Check.fault("worth = " + WORDS[i] + ";", isVar ? 0 : 1, isVar ? -1 : isIf ? 10 : 8);
            Check.fault("worth = 1 + " + WORDS[i] + ";", isVar ? 0 : 1, isVar ? -1 : 12);
            // A text begins with one of the first eleven.
            Check.fault(WORDS[i], 1, i < 11 ? WORDS[i].length() : 0);
        }
        Check.fault("worth = ripes;", 1, 8);
    }

    /** "INTS (1 to 4 digits)". */
    private static void intsOf4Digits() {
        String[] good = {"0", "9", "00", "99", "000", "999", "0000", "9999", "0009"};
        for (String digits : good) {
            Check.fault("seed " + digits + ";", 0, -1);
            Check.fault("wind = " + digits + ";", 0, -1);
        }
        String[] long5 = {"00000", "99999", "10000", "000000", "4294967296", "18446744073709551616"};
        for (String digits : long5) {
            Check.fault("seed " + digits + ";", 1, 5);
            Check.fault("wind = " + digits + ";", 1, 7);
            Check.fault("fruit a " + digits + " 1 1;", 1, 8);
        }
        Check.fault("seed /;", 1, 5);
        Check.fault("seed :;", 1, 5);
        FallMarket m = Check.of("fruit a 0009 0009 0099; buyer b 0009 0003 0999;");
        Check.due("X of 0009", 9, m.fruit(0, 0));
        Check.due("HIGH of 0009", 9, m.fruit(0, 1));
        Check.due("RIPE of 0099", 99, m.fruit(0, 2));
        Check.due("COINS of 0999", 999, m.buyer(0, 2));
    }

    /** "TOKENS, the longest that can be": no word is cut off from the letters behind it, no digit from the digits. */
    private static void longestThatCanBe() {
        Check.fault("seed1;fine2;keeps3;", 0, -1);
        Check.fault("fruita 1 1 1;", 1, 0);
        Check.fault("fruit a1 1 1;", 0, -1);
        Check.fault("fruit a 111;", 1, 11);
        Check.fault("fruit a1b 1 1;", 1, 8);
        Check.fault("wind=if1<2then3else4;", 0, -1);
        Check.fault("wind=if ripe<2then3else4;", 0, -1);
        Check.fault("wind=ifripe<2then3else4;", 1, 5);
        Check.fault("wind=if1<2then3elseripe;", 1, 15);
        Check.fault("wind=1elsewind", 1, 6);
        Check.fault("keepsseed 1;", 1, 0);
        Check.fault("fruitfruit a 1 1 1;", 1, 0);
    }

    private static void number(String ahead, String behind, int least, int most, int what, boolean ofFruit) {
        int[] some = {0, 1, 2, 3, 4, 8, 9, 10, 11, 98, 99, 100, 101, 998, 999, 1000, 9999};
        for (int n : some) {
            String text = ahead + n + behind;
            boolean isGood = n >= least && n <= most;
            Check.fault(text, isGood ? 0 : 5, isGood ? -1 : ahead.length());
            if (isGood && what >= 0) {
                FallMarket m = Check.of(text);
                Check.due("number of " + text, n, ofFruit ? m.fruit(0, what) : m.buyer(0, what));
            }
        }
    }

    /** "X 0 .. 9, HIGH 1 .. 9, RIPE 0 .. 99". */
    private static void numbersOfFruit() {
        number("fruit a ", " 1 1;", 0, 9, 0, true);
        number("fruit a 1 ", " 1;", 1, 9, 1, true);
        number("fruit a 1 1 ", ";", 0, 99, 2, true);
    }

    /** "X 0 .. 9, REACH 0 .. 3, COINS 0 .. 999". */
    private static void numbersOfBuyers() {
        number("buyer a ", " 1 1;", 0, 9, 0, false);
        number("buyer a 1 ", " 1;", 0, 3, 1, false);
        number("buyer a 1 1 ", ";", 0, 999, 2, false);
    }

    /** "FINE 0 .. 99 (10) .. the last one". */
    private static void fines() {
        number("fine ", ";", 0, 99, -1, true);
        int[] fine = {0, 1, 10, 98, 99};
        for (int n : fine) {
            FallMarket m = Check.of("fine 7; fine " + n + "; fruit a 1 1 0; found = 100;");
            Check.due("found out", 1, m.shake(0));
            Check.due("fine " + n, n, m.count(14));
            Check.due("found out", 1, m.shake(0));
            Check.due("fine " + n + " twice", 2 * n, m.count(14));
        }
        FallMarket m = Check.of("fruit a 1 1 0; found = 100;");
        m.shake(0);
        Check.due("fine not told", 10, m.count(14));
    }

    /** "KEEPS .. 0 .. 99 (6) .. the last one": it lies for so many hours, and is rotten behind one more. */
    private static void keeps() {
        number("keeps ", ";", 0, 99, -1, true);
        int[] keeps = {0, 1, 6, 98, 99};
        for (int n : keeps) {
            lies(Check.of("keeps 3; keeps " + n + "; fruit a 1 1 0; falls = 100;"), n);
        }
        lies(Check.of("fruit a 1 1 0; falls = 100;"), 6);
    }

    private static void lies(FallMarket m, int keeps) {
        m.hours(1);
        for (int n = 0; n < keeps; n++) {
            m.hours(1);
        }
        Check.due("lies on for " + keeps, 1, m.fruit(0, 3));
        Check.due("has lain", keeps, m.fruit(0, 5));
        m.hours(1);
        Check.due("rotten behind " + keeps, 3, m.fruit(0, 3));
        Check.due("had lain", keeps + 1, m.fruit(0, 5));
    }

    /** "SEED 0 .. 9999 (0): the last one": 9,999 is the greatest INT, one more is no TOKEN. */
    private static void seeds() {
        number("seed ", ";", 0, 9999, -1, true);
        Check.fault("seed 10000;", 1, 5);
        // Lots of 100 of fruit 0 in hour 0, worked out by hand: 42 by seed 0, 51 by seed 9999.
        String fruit = "fruit a 1 1 0; falls = ";
        Check.due("seed 0 falls by 43", 1, Check.of("seed 0;" + fruit + "43;").then(0, 1, 0));
        Check.due("seed 0 hangs by 42", 0, Check.of("seed 0;" + fruit + "42;").then(0, 1, 0));
        Check.due("no seed falls by 43", 1, Check.of(fruit + "43;").then(0, 1, 0));
        Check.due("no seed hangs by 42", 0, Check.of(fruit + "42;").then(0, 1, 0));
        Check.due("seed 9999 falls by 52", 1, Check.of("seed 0; seed 9999;" + fruit + "52;").then(0, 1, 0));
        Check.due("seed 9999 hangs by 51", 0, Check.of("seed 0; seed 9999;" + fruit + "51;").then(0, 1, 0));
    }

    /** "numbered each from 0 on as they stand". */
    private static void numberedAsTheyStand() {
        FallMarket m = Check.of("buyer z 9 1 1; fruit y 8 1 1; buyer x 7 1 1; fruit w 6 1 1; buyer v 5 1 1; fruit u 4 1 1;");
        for (int i = 0; i < 3; i++) {
            Check.due("buyer " + i, 9 - 2 * i, m.buyer(i, 0));
            Check.due("fruit " + i, 8 - 2 * i, m.fruit(i, 0));
        }
        Check.due("fruit 3", -1, m.fruit(3, 0));
        Check.due("buyer 3", -1, m.buyer(3, 0));
    }

    /** "FRUIT, 7 at most .. one more of a sort than told (at its first TOKEN)". */
    private static void sevenFruit() {
        Check.fault(SEVEN, 0, -1);
        Check.due("seven", 7, Check.of(SEVEN).count(0));
        Check.fault(SEVEN + "fruit h 1 1 1;", 2, SEVEN.length());
        Check.fault(SEVEN + FOUR + " fruit h 1 1 1;", 2, SEVEN.length() + FOUR.length() + 1);
        Check.fault(SEVEN + "fruit", 2, SEVEN.length());
        Check.fault(SEVEN + "fruit ?", 2, SEVEN.length());
        Check.fault(SEVEN + "fruit a 10 1 1;", 2, SEVEN.length());
        Check.fault(SEVEN + "fruits", 1, SEVEN.length());
        Check.fault(SEVEN + "buyer h 1 1 1;", 0, -1);
    }

    /** "BUYERS, 4 at most". */
    private static void fourBuyers() {
        Check.fault(FOUR, 0, -1);
        Check.due("four", 4, Check.of(FOUR).count(1));
        Check.fault(FOUR + "buyer v 1 1 1;", 2, FOUR.length());
        Check.fault(FOUR + SEVEN + "\nbuyer v 1 1 1;", 2, FOUR.length() + SEVEN.length() + 1);
        Check.fault(FOUR + "buyer", 2, FOUR.length());
        Check.fault(FOUR + "buyer 1", 2, FOUR.length());
        Check.fault(FOUR + "fruit v 1 1 1;", 0, -1);
        Check.fault(FOUR + SEVEN, 0, -1);
    }

    /** "a 401st TOKEN". */
    private static void tokens400() {
        Check.fault(FULL, 0, -1);
        Check.fault(FULL + "\n \t\r", 0, -1);
        Check.fault(FULL + "wind=1;", 2, 700);
        Check.fault(FULL + "  wind", 2, 702);
        Check.fault(FULL + "fruit", 2, 700);
        Check.fault(ALMOST, 0, -1);
        Check.fault(ALMOST + "seed", 1, 935);
        Check.fault(ALMOST + "seed 1", 2, 936);
        Check.fault(ALMOST + "seed 1;", 2, 936);
        String sum = "worth=1" + "+1".repeat(198) + ";";
        Check.fault(sum, 0, -1);
        Check.due("worth by 400 tokens", 99, Check.of("fruit f 1 1 1;worth=1" + "+1".repeat(195) + ";").tells(0, 2));
        Check.fault("worth=1" + "+1".repeat(199) + ";", 2, 7 + 198 * 2 + 1);
        // The 401st may be any that a text goes on with: an if, a bracket, a sign, a var.
        String most = "seed 1;".repeat(132);
        Check.fault(most + "wind=if 1<", 2, most.length() + 9);
        Check.fault(most + "wind=1+1", 2, most.length() + 7);
        Check.fault(most + "wind=1+left", 2, most.length() + 7);
        Check.fault(most + "wind=(((", 2, most.length() + 7);
        Check.fault(most + "wind=(1)", 2, most.length() + 7);
        Check.fault("wind=1;".repeat(2) + "seed 1;".repeat(130) + "wind=if", 2, 14 + 910 + 5);
        Check.fault(most + "wind=1;seed", 2, most.length() + 7);
        Check.fault(most + "wind=1;", 0, -1);
    }

    /** "a 5th if of a LAW (at it)": four in each of them. */
    private static void fourIfs() {
        String four = "if 1<2 then 3 else ".repeat(4);
        String[] laws = {"wind", "ripens", "falls", "worth", "bounces", "found"};
        String all = "";
        for (String law : laws) {
            Check.fault(law + "=" + four + "5;", 0, -1);
            Check.fault(law + "=" + four + "if 1<2 then 3 else 5;", 2, law.length() + 1 + four.length());
            Check.fault(law + "=" + four + "if", 2, law.length() + 1 + four.length());
            Check.fault(law + "=" + four + "?", 1, law.length() + 1 + four.length());
            all += law + "=" + four + "5;";
        }
        Check.fault(all, 0, -1);
        Check.fault("wind=" + four + "5;wind=" + four + "5;", 0, -1);
        Check.fault("wind=" + four + "then", 1, 5 + four.length());
    }

    /** "a 7th ( within one another (at it)": in each place where an E may stand, and not if they stand side by side. */
    private static void sixOpen() {
        String six = "((((((1))))))";
        String seven = "(((((((1)))))))";
        String[] places = {"wind=E;", "wind=E+1;", "wind=1*E;", "wind=if E<1 then 1 else 1;", "wind=if 1<E then 1 else 1;",
            "wind=if 1<1 then E else 1;", "wind=if 1<1 then 1 else E;", "wind=E+E*E-E/E;", "wind=1+(1)*E;"};
        for (String place : places) {
            Check.fault(place.replace("E", six), 0, -1);
            Check.fault(place.replaceFirst("E", seven).replace("E", six), 2, place.indexOf('E') + 6);
        }
        Check.fault("wind=((((((1+(", 2, 13);
        Check.fault("wind=((((((1)+(1))))));", 0, -1);
        Check.fault("wind=((((((1)+((1))))));", 2, 15);
        Check.fault("wind=((((((1))))))" + "*((((((1))))))".repeat(20) + ";", 0, -1);
        Check.fault("wind=(((((((", 2, 11);
        Check.fault("wind=((((((", 1, 11);
        Check.fault("wind=(((((()", 1, 11);
    }

    /** "the text's end: its length": with the blanks ahead of it, wherever a text ends too soon. */
    private static void textsEnd() {
        String[] whole = {"fruit a 1 1 1 ;", "buyer a 1 1 1 ;", "wind = if 1 < 2 then ( 3 ) else 4 + 5 * 6 ;", "fine 1 ;", "keeps 1 ;", "seed 1 ;"};
        for (String text : whole) {
            Check.fault(text, 0, -1);
            for (int at = 1; at < text.length(); at++) {
                if (text.charAt(at) == ' ') {
                    Check.fault(text.substring(0, at), 1, at);
                    Check.fault(text.substring(0, at) + " \n\t\r", 1, at + 4);
                    Check.fault("seed 1;" + text.substring(0, at), 1, 7 + at);
                }
            }
        }
    }

    /** "FAULTS of a text, the first by its place". */
    private static void firstByPlace() {
        Check.fault("? fruit", 1, 0);
        Check.fault(SEVEN + "? fruit h 1 1 1;", 1, SEVEN.length());
        Check.fault(SEVEN + "fruit h 1 1 1; ?", 2, SEVEN.length());
        Check.fault("wind=(((((((1; ?", 2, 11);
        Check.fault("wind=1?(((((((1;", 1, 6);
        Check.fault(FOUR + "buyer v 1 1 1;" + SEVEN + "fruit h 1 1 1;", 2, FOUR.length());
        Check.fault(SEVEN + "fruit h 1 1 1;" + FOUR + "buyer v 1 1 1;", 2, SEVEN.length());
    }

    /** "of one place the least": a 401st with which no text goes on is SYNTAX. */
    private static void leastOfOnePlace() {
        Check.fault(FULL + "x", 1, 700);
        Check.fault(FULL + ";", 1, 700);
        Check.fault(FULL + "?", 1, 700);
        Check.fault(FULL + "1", 1, 700);
        Check.fault(FULL + "12345", 1, 700);
        Check.fault(FULL + "abcdefghi", 1, 700);
        Check.fault(FULL + "if", 1, 700);
        Check.fault(ALMOST + "seed ;", 1, 936);
        Check.fault(ALMOST + "seed", 1, 935);
        String most = "seed 1;".repeat(132);
        Check.fault(most + "wind=1 2", 1, most.length() + 7);
        Check.fault(most + "wind=1)", 1, most.length() + 6);
        Check.fault(most + "wind=)", 1, most.length() + 5);
    }

    /** "3 TWICE: a NAME told already (all together)". */
    private static void namesTwice() {
        Check.fault("fruit a 1 1 1; fruit a 2 2 2;", 3, 21);
        Check.fault("fruit a 1 1 1; buyer a 2 2 2;", 3, 21);
        Check.fault("buyer a 1 1 1; fruit a 2 2 2;", 3, 21);
        Check.fault("buyer a 1 1 1; buyer a 2 2 2;", 3, 21);
        Check.fault("fruit a 1 1 1; fruit b 1 1 1; fruit b 1 1 1; fruit a 1 1 1;", 3, 36);
        // The last of eleven is alike to the first.
        Check.fault(SEVEN + FOUR.replace("buyer z", "buyer a"), 3, SEVEN.length() + 3 * 14 + 6);
        Check.fault(FOUR + SEVEN.replace("fruit g", "fruit w"), 3, FOUR.length() + 6 * 14 + 6);
        Check.fault(SEVEN.replace("fruit g", "fruit f"), 3, 6 * 14 + 6);
    }

    /** "5 WRONG (at the INT)": the first of them, and with TWICE the first by its place. */
    private static void wrongNumbers() {
        Check.fault("fruit a 10 10 100;", 5, 8);
        Check.fault("fruit a 1 10 100;", 5, 10);
        Check.fault("fruit a 1 0 100;", 5, 10);
        Check.fault("fruit a 1 1 100;", 5, 12);
        Check.fault("buyer a 1 1 1000; fine 100;", 5, 12);
        Check.fault("fine 100; keeps 100;", 5, 5);
        Check.fault("fine 99; keeps 100; fine 100;", 5, 15);
        Check.fault("fruit a 1 1 1; fruit a 10 1 1;", 3, 21);
        Check.fault("fruit a 10 1 1; fruit a 1 1 1;", 5, 8);
        Check.fault("fruit a 1 1 1; fine 100; buyer a 1 1 1;", 5, 20);
        // Settings told anew do not mend it, and what a law tells is never wrong.
        Check.fault("fine 100; fine 99;", 5, 5);
        Check.fault("keeps 100; keeps 1;", 5, 6);
        Check.fault("wind = 9999; ripens = 9999; falls = 9999; worth = 9999; bounces = 9999; found = 9999;", 0, -1);
    }

    /** "If there is none, likewise": SYNTAX and ROOM go ahead of TWICE and WRONG, wherever they stand. */
    private static void hardAheadOfSoft() {
        Check.fault("fruit a 10 1 1; ?", 1, 16);
        Check.fault("fruit a 1 1 1; fruit a 1 1 1;?", 1, 29);
        Check.fault("fruit a 10 1 1", 1, 14);
        Check.fault("fruit a 1 1 1; buyer a 1 1", 1, 26);
        String wrong = "fine 100;";
        Check.fault(wrong + SEVEN + "fruit h 1 1 1;", 2, wrong.length() + SEVEN.length());
        Check.fault(wrong + "wind=(((((((1)))))));", 2, wrong.length() + 11);
        Check.fault(wrong + FULL, 2, wrong.length() + 99 * 7 + 4);
        String alike = "fruit a 1 1 1;".repeat(7);
        Check.fault(alike, 3, 20);
        Check.fault(alike + "fruit a 1 1 1;", 2, alike.length());
    }

    /** "A text with a FAULT changes nothing but the tape": for each fault. */
    private static void faultChangesNothing() {
        String[] faulty = {"fruit x 2 2 2; ?", SEVEN + "fruit h 1 1 1;", "fruit x 1 1 1; fruit x 1 1 1;", "fruit x 1 1 1; fine 100;",
            "seed 9; fine 9; keeps 9; falls = 99; worth = 9; ripens = 9; wind = 9; bounces = 9; found = 9; x"};
        int[] numbers = {1, 2, 3, 5, 1};
        for (int i = 0; i < faulty.length; i++) {
            FallMarket left = wellUsed();
            FallMarket faced = wellUsed();
            Check.type(faced, faulty[i]);
            Check.due("fault", numbers[i], faced.read());
            Check.due("the tape is empty", 0, faced.count(8));
            Check.same("behind a fault " + numbers[i], left, faced);
            left.hours(9);
            faced.hours(9);
            Check.same("hours behind a fault " + numbers[i], left, faced);
            Check.due("undo", true, faced.undo());
            Check.due("undo", true, faced.undo());
            Check.due("restore", true, faced.restore(1));
            Check.due("hour held", 2, faced.count(2));
        }
    }

    private static FallMarket wellUsed() {
        FallMarket m = Check.of("fruit a 3 4 50; fruit b 7 2 20; buyer c 3 1 90; buyer d 9 0 5; falls = ripe + shaken * 50; keeps 1; "
            + "seed 4; fine 5; found = 60; bounces = high - 3; wind = hour;");
        m.hours(2);
        m.hold(0);
        m.hold(1);
        m.hold(2);
        m.shake(1);
        m.prop(1, true);
        m.go(1, 4);
        m.hours(1);
        m.tell(2, 6);
        m.tell(4, 4);
        return m;
    }

    /** "else it is in place of the one ahead: hour 0, all FRUIT hanging, .. SLOTS hold nothing". */
    private static void newTextChangesAll() {
        String text = "fruit z 1 2 3; buyer y 4 1 6;";
        FallMarket m = wellUsed();
        Check.type(m, text);
        Check.due("read", 0, m.read());
        Check.same("a text in place of another", Check.of(text), m);
        Check.due("undo", false, m.undo());
        for (int slot = 0; slot < 3; slot++) {
            Check.due("restore(" + slot + ")", false, m.restore(slot));
        }
        Check.due("tell", 0, m.tell(2, 1));
        Check.due("lots of seed 0", Check.of(text).much(9, 0), m.much(9, 0));
        // A text alike begins anew as well.
        m = Check.of("fruit a 1 1 1; falls = 100;");
        m.hours(9);
        Check.type(m, "fruit a 1 1 1; falls = 100;");
        m.read();
        Check.same("the same text anew", Check.of("fruit a 1 1 1; falls = 100;"), m);
        m = wellUsed();
        m.read();
        Check.same("nothing in place of a text", new FallMarket(), m);
    }

    /** Of all texts ahead nothing is left, however many they were: each is seen as in a new object. */
    private static void textsInTurn() {
        String laws = "wind=7; ripens=5; falls=40; worth=30; bounces=4; found=100; fine 50; keeps 3; seed 77;";
        String[] texts = {SEVEN + FOUR + laws, "fruit a 2 2 2; fruit b 3 3 3;", "", "buyer a 1 1 1;", "fruit a 1 1 1; buyer b 8 0 9;",
            "seed 5; fruit a 1 1 1;", "falls=if 1<2 then 3 else 4; fruit a 1 1 1; fruit c 2 2 2;", "fine 99;", laws, FOUR, SEVEN};
        for (int from = 0; from < texts.length; from++) {
            for (int first = 0; first < texts.length; first += 2) {
                FallMarket m = Check.of(texts[first]);
                usedUp(m);
                for (int n = 0; n < 3; n++) {
                    String text = texts[(from + n) % texts.length];
                    Check.type(m, text);
                    Check.due("read", 0, m.read());
                    Check.due("place", -1, m.place());
                }
                FallMarket anew = Check.of(texts[(from + 2) % texts.length]);
                Check.same("text " + (from + 2) + " behind others", anew, m);
                Check.due("slots", 0, m.count(11));
                Check.due("shake", anew.shake(0), m.shake(0));
                Check.due("fines", anew.count(14), m.count(14));
                Check.due("hours(9)", anew.hours(9), m.hours(9));
                Check.same("nine hours of text " + (from + 2) + " behind others", anew, m);
            }
        }
    }

    /** Things done, told and held, as many as can be. */
    private static void usedUp(FallMarket m) {
        for (int i = 0; i < 7; i++) {
            m.tell(1, 1);
            m.hours(i % 2);
            m.prop(i, true);
            m.go(i, i);
            m.shake(i);
            m.hold(i);
        }
    }

    /** "The byte of the latest read()'s FAULT; NONE without." */
    private static void placeOfTheLatest() {
        FallMarket m = new FallMarket();
        Check.due("no read", -1, m.place());
        Check.type(m, "   ?");
        Check.due("not read yet", -1, m.place());
        Check.due("read", 1, m.read());
        Check.due("place", 3, m.place());
        Check.type(m, "?");
        Check.due("still that one's", 3, m.place());
        Check.due("read", 1, m.read());
        Check.due("place 0", 0, m.place());
        Check.due("read of none", 0, m.read());
        Check.due("none", -1, m.place());
        String[] faulty = {"seed ?;", SEVEN + "fruit", "fruit a 1 1 1; fruit a 1 1 1;", "fine 100;"};
        int[] numbers = {1, 2, 3, 5};
        int[] places = {5, SEVEN.length(), 21, 5};
        for (int i = 0; i < faulty.length; i++) {
            Check.type(m, faulty[i]);
            Check.due("read", numbers[i], m.read());
            Check.due("place", places[i], m.place());
            Check.type(m, "fruit a 1 1 1;");
            Check.due("read", 0, m.read());
            Check.due("none behind a fault " + numbers[i], -1, m.place());
            Check.type(m, faulty[(i + 1) % 4]);
            m.read();
            Check.due("place of another", places[(i + 1) % 4], m.place());
        }
    }

    /** "WIND (0), RIPENS (1), FALLS (ripe), WORTH (ripe), BOUNCES (0), FOUND (0), if not told; the last one." */
    private static void lawsNotTold() {
        FallMarket m = Check.of("fruit a 5 4 99; fruit b 5 4 0;");
        Check.due("wind", 0, m.count(3));
        for (int i = 0; i < 2; i++) {
            int ripe = i == 0 ? 99 : 0;
            Check.due("falls", ripe, m.tells(i, 0));
            Check.due("ripens", 1, m.tells(i, 1));
            Check.due("worth", ripe, m.tells(i, 2));
            Check.due("bounces", 0, m.tells(i, 3));
        }
        for (int n = 0; n < 40; n++) {
            Check.due("not found", 0, m.shake(1));
        }
        // By seed 68 the first lot of a shake is 0.
        Check.due("not found by lot 0", 0, Check.of("fruit a 5 4 9; seed 68;").shake(0));
        m = Check.of("wind=1;wind=2;ripens=3;ripens=4;falls=5;falls=6;worth=7;worth=8;bounces=1;bounces=2;found=0;found=100;fruit a 5 4 9;");
        Check.due("the last wind", 2, m.count(3));
        Check.due("the last falls", 6, m.tells(0, 0));
        Check.due("the last ripens", 4, m.tells(0, 1));
        Check.due("the last worth", 8, m.tells(0, 2));
        Check.due("the last bounces", 2, m.tells(0, 3));
        Check.due("the last found", 1, m.shake(0));
    }
}
