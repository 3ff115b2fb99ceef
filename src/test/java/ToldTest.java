/** Promises 29 to 33: which fruit lies there. */
public final class ToldTest {
    // Lies at x and high less 2: a 3, b 3, c 3, d 5, e 5, f 0, g 9.
    private static final String TEXT = "fruit a 3 2 1; fruit b 3 2 1; fruit c 3 2 1; fruit d 3 4 1; fruit e 3 4 1; "
        + "fruit f 0 1 1; fruit g 9 9 1; bounces = high - 2;";

    public static void main(String[] args) {
        telling();
        rows();
        begins();
        Check.end("ToldTest");
    }

    private static void telling() {
        FallMarket m = Check.of(TEXT);
        int[][] none = {{0, 0}, {10, 0}, {1, -1}, {1, 10}};
        for (int[] a : none) {
            Check.due("tell(" + a[0] + ", " + a[1] + ")", -1, m.tell(a[0], a[1]));
        }
        Check.due("forget none", 0, m.forget());
        for (int i = 0; i < 7; i++) {
            Check.due("tell " + i, i, m.tell(i % 2 == 0 ? 1 : 9, i % 2 == 0 ? 0 : 9));
        }
        Check.due("tell an eighth", -1, m.tell(1, 0));
        Check.due("told", 7, m.count(10));
        Check.due("no thing done", 0, m.count(9));
        Check.due("forget", 7, m.forget());
        Check.due("told", 0, m.count(10));
        Check.due("tell anew", 0, m.tell(1, 0));
    }

    private static void rows() {
        FallMarket m = Check.of(TEXT);
        Check.due("rows(0)", 1, m.rows(0));
        Check.due("rows(1)", -1, m.rows(1));
        Check.due("rows(-1)", -1, m.rows(-1));
        Check.due("ask(0)", -2, m.ask(0));
        Check.due("ask(1)", -1, m.ask(1));
        Check.due("ask(-1)", -1, m.ask(-1));
        Check.due("sure(0, 0)", -1, m.sure(0, 0));
        m.tell(4, 5);
        m.tell(2, 3);
        m.tell(1, 0);
        m.tell(4, 5);
        m.tell(2, 3);
        m.tell(9, 9);
        int[] many = {1, 2, 6, 6, 6, 12, 12};
        int[] ask = {-2, 0, 1, 1, 1, 1, 1};
        for (int k = 0; k <= 6; k++) {
            Check.due("rows(" + k + ")", many[k], m.rows(k));
            Check.due("ask(" + k + ")", ask[k], m.ask(k));
        }
        Check.due("sure(6, 0)", -2, m.sure(6, 0));
        Check.due("sure(6, 1)", -2, m.sure(6, 1));
        Check.due("sure(6, 2)", 5, m.sure(6, 2));
        Check.due("sure(6, 5)", 6, m.sure(6, 5));
        Check.due("sure(5, 5)", -1, m.sure(5, 5));
        Check.due("sure(6, 6)", -1, m.sure(6, 6));
        Check.due("sure(6, -1)", -1, m.sure(6, -1));
        Check.due("sure(7, 0)", -1, m.sure(7, 0));
        Check.due("sure(-1, 0)", -1, m.sure(-1, 0));
        m.tell(9, 9);
        Check.due("no rows", 0, m.rows(7));
        Check.due("no rows, sure", -2, m.sure(7, 2));
        Check.due("no rows, ask", -2, m.ask(7));
        Check.due("rows(6) still", 12, m.rows(6));
        m.forget();
        m.tell(2, 4);
        Check.due("lies elsewhere", 0, m.rows(1));
        m.tell(3, 3);
        Check.due("no such height", 0, m.rows(2));
        String seven = "";
        for (int i = 0; i < 7; i++) {
            seven += "fruit " + (char) ('a' + i) + " 1 1 1;";
        }
        m = Check.of(seven);
        for (int i = 0; i < 7; i++) {
            m.tell(1, 1);
        }
        Check.due("rows of seven", 5040, m.rows(7));
        Check.due("ask of seven", 0, m.ask(7));
    }

    private static void begins() {
        FallMarket m = Check.of("fruit a 3 2 1; fruit b 3 2 2; falls = 100; bounces = ripe + left - hour + blows; wind = 4;");
        m.tell(2, 6);
        m.tell(2, 7);
        m.hours(3);
        Check.due("as the text begins", 1, m.rows(2));
        Check.due("sure(2, 0)", 0, m.sure(2, 0));
        Check.due("sure(2, 1)", 1, m.sure(2, 1));
        Check.due("told stays", 2, m.count(10));
        m = Check.of("fruit a 1 2 1; fruit b 3 2 2; bounces = across;");
        m.tell(2, 2);
        m.tell(2, 6);
        Check.due("each by its own x", 1, m.rows(2));
        Check.due("sure(2, 1)", 1, m.sure(2, 1));
    }
}
