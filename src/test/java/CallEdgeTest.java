import java.lang.reflect.Method;
import java.util.ArrayList;
import java.util.Arrays;
import java.util.List;
import java.util.function.Supplier;

/**
 * Every call with numbers, by a table: the least and the greatest of each number are answered, one beyond each
 * and the farthest ints are refused by what the document names, and nothing has changed then.
 */
public final class CallEdgeTest {
    /** The call, its answer for what there is none of, and the range of each of its numbers. */
    private static final String[] TABLE = {
        "back -1 0:20", "fruit -1 0:F 0:7", "buyer -1 0:B 0:3", "tells -100 0:F 0:3", "go 0 0:B 0:9", "prop 0 0:F yes", "prop 0 0:F no",
        "shake -1 0:F", "hours -1 0:48", "hangsOn -1 0:F 1:4 yes", "hangsOn -1 0:F 1:4 no", "mean -1 0:B 0:9 1:4", "stand -1 0:B 1:4 0:1",
        "props -1 1:3 0:1", "shakes -1 0:F 0:100", "passes -1 0:F 0:20", "windIn -1 0:60", "catcher -1 0:F", "then -1 0:F 0:60 0:1",
        "paid -1 0:B 0:60", "much -1 0:60 0:3", "last -1 0:1", "year -1 0:B 0:F 0:60 1:20", "tell -1 1:9 0:9", "rows -1 0:3",
        "sure -1 3:3 0:2", "ask -1 0:3", "hold 0 0:2", "restore 0 0:2", "count -1 0:18"};

    private final String name;
    private final int refusal;
    private final int[][] ranges;
    private final boolean[] isFlag;
    private final Method method;

    private CallEdgeTest(String row, int fruits, int buyers) {
        String[] parts = row.split(" ");
        name = parts[0];
        refusal = Integer.parseInt(parts[1]);
        ranges = new int[parts.length - 2][];
        isFlag = new boolean[ranges.length];
        for (int i = 0; i < ranges.length; i++) {
            String part = parts[i + 2].replace("F", "" + (fruits - 1)).replace("B", "" + (buyers - 1));
            isFlag[i] = !part.contains(":");
            ranges[i] = isFlag[i] ? new int[] {part.equals("yes") ? 1 : 0, part.equals("yes") ? 1 : 0}
                : new int[] {Integer.parseInt(part.split(":")[0]), Integer.parseInt(part.split(":")[1])};
        }
        method = Arrays.stream(FallMarket.class.getMethods()).filter(m -> m.getName().equals(name)).findFirst().orElseThrow();
    }

    public static void main(String[] args) {
        for (String row : TABLE) {
            new CallEdgeTest(row, 2, 2).go("two of each", CallEdgeTest::two);
            new CallEdgeTest(row, 7, 4).go("all there can be", CallEdgeTest::full);
            new CallEdgeTest(row, 0, 0).go("none of each", CallEdgeTest::none);
        }
        refusedByHand();
        Check.end("CallEdgeTest");
    }

    private static FallMarket two() {
        return used(Check.of("fruit a 3 4 0; fruit b 7 2 0; buyer c 3 1 90; buyer d 9 0 5; falls=shaken*3; keeps 1; seed 4; "
            + "fine 5; found=60; bounces=high-3; wind=hour; ripens=2;"));
    }

    private static FallMarket full() {
        String text = "falls=0; found=60; ripens=2;";
        for (int i = 0; i < 7; i++) {
            text += "fruit " + (char) ('a' + i) + " 9 9 0;";
        }
        for (int i = 0; i < 4; i++) {
            text += "buyer " + (char) ('p' + i) + " 5 3 99;";
        }
        return used(Check.of(text));
    }

    private static FallMarket none() {
        return used(new FallMarket());
    }

    /** Three told, twenty bytes on the tape, three slots, an hour and some things done. */
    private static FallMarket used(FallMarket m) {
        m.hold(0);
        m.hours(1);
        m.hold(1);
        m.go(1, 4);
        m.hold(2);
        m.prop(0, true);
        m.shake(1);
        m.tell(2, 6);
        m.tell(4, 4);
        m.tell(9, 9);
        m.feed('s' << 24 | 'e' << 16 | 'e' << 8 | 'd', ' ' << 24 | '1' << 16 | ';' << 8 | ' ', ' ' << 24, -1, -1);
        return m;
    }

    private int call(FallMarket m, int[] numbers) {
        Object[] given = new Object[numbers.length];
        for (int i = 0; i < numbers.length; i++) {
            given[i] = isFlag[i] ? (Object) (numbers[i] == 1) : (Object) numbers[i];
        }
        try {
            Object answer = method.invoke(m, given);
            return answer instanceof Boolean is ? is ? 1 : 0 : (Integer) answer;
        } catch (ReflectiveOperationException e) {
            throw new IllegalStateException(name + Arrays.toString(numbers), e);
        }
    }

    private void go(String state, Supplier<FallMarket> made) {
        List<int[]> good = new ArrayList<>();
        List<int[]> bad = new ArrayList<>();
        collect(new int[ranges.length], 0, true, good, bad);
        for (int[] numbers : good) {
            FallMarket m = made.get();
            boolean isSo = isSoAlready(m, numbers);
            Check.due(state + ": " + name + Arrays.toString(numbers) + " is answered", !isSo, call(m, numbers) != refusal);
        }
        // At most 200 calls an object, so that all looks at it stay below 512.
        for (int from = 0; from < bad.size(); from += 200) {
            List<int[]> some = bad.subList(from, Math.min(bad.size(), from + 200));
            FallMarket asked = made.get();
            for (int[] numbers : some) {
                Check.due(state + ": " + name + Arrays.toString(numbers), refusal, call(asked, numbers));
            }
            Check.inVain(state + ": refused " + name, made, m -> {
                for (int[] numbers : some) {
                    call(m, numbers);
                }
            });
        }
    }

    /** What is refused though its numbers are good: it is so already. */
    private boolean isSoAlready(FallMarket m, int[] numbers) {
        return name.equals("go") && m.buyer(numbers[0], 0) == numbers[1]
            || name.equals("prop") && m.fruit(numbers[0], 6) == numbers[1];
    }

    /** All rows of the least and greatest of each number, and those in which one of them or more is beyond. */
    private void collect(int[] numbers, int at, boolean isGood, List<int[]> good, List<int[]> bad) {
        if (at == numbers.length) {
            (isGood ? good : bad).add(numbers.clone());
            return;
        }
        int least = ranges[at][0];
        int most = ranges[at][1];
        int[] within = least > most ? new int[0] : least == most ? new int[] {least} : new int[] {least, most};
        for (int n : within) {
            numbers[at] = n;
            collect(numbers, at + 1, isGood, good, bad);
        }
        if (!isFlag[at]) {
            boolean isLone = name.equals("sure") && at == 0;
            int[] beyond = isLone ? new int[] {-1, 4, Integer.MIN_VALUE, Integer.MAX_VALUE}
                : new int[] {least - 1, most + 1, Integer.MIN_VALUE, Integer.MAX_VALUE};
            for (int n : beyond) {
                numbers[at] = n;
                collect(numbers, at + 1, false, good, bad);
            }
        }
    }

    /** Calls whose numbers are good, but that are refused by how it is. */
    private static void refusedByHand() {
        Check.inVain("go where it is", CallEdgeTest::two, m -> {
            m.go(0, 3);
            m.go(1, 4);
        });
        Check.inVain("prop as it is", CallEdgeTest::two, m -> {
            m.prop(0, true);
            m.prop(1, false);
        });
        Check.inVain("no hours", CallEdgeTest::two, m -> m.hours(0));
        Check.inVain("none goes back", CallEdgeTest::two, m -> m.back(0));
        Check.inVain("prop and shake what does not hang", CallEdgeTest::fallen, m -> {
            for (int i = 0; i < 3; i++) {
                m.prop(i, true);
                m.prop(i, false);
                m.shake(i);
                m.hangsOn(i, 1, true);
                m.shakes(i, 1);
                m.passes(i, 1);
            }
        });
        Check.inVain("restore what is not held", CallEdgeTest::fallen, m -> {
            m.restore(0);
            m.restore(1);
            m.restore(2);
        });
        Check.inVain("undo nothing", () -> Check.of("fruit a 1 1 1;"), m -> {
            m.undo();
            m.undo();
        });
        Check.inVain("tell an eighth", () -> {
            FallMarket m = Check.of("fruit a 1 1 1;");
            for (int i = 0; i < 7; i++) {
                m.tell(1, 1);
            }
            return m;
        }, m -> m.tell(2, 2));
        Check.inVain("forget nothing", () -> Check.of("fruit a 1 1 1;"), m -> m.forget());
        Check.inVain("feed a full tape", () -> {
            FallMarket m = Check.of("fruit a 1 1 1;");
            for (int i = 0; i < 100; i++) {
                m.feed(0x20202020, 0x20202020, 0x20202020, 0x20202020, 0x20202020);
            }
            m.back(19);
            return m;
        }, m -> m.feed(1, 1, 1, 1, 1));
        Check.inVain("looks", CallEdgeTest::two, m -> {
            Check.seen(m);
            m.place();
        });
    }

    /** One sold, one lying, one rotten, and one hanging. */
    private static FallMarket fallen() {
        FallMarket m = Check.of("fruit a 1 1 1; fruit b 8 1 1; fruit c 8 2 1; fruit d 5 3 1; buyer e 1 0 9; keeps 0; "
            + "falls=if 2<high then 0 else if hour<1 then (high-1)*100 else 100;");
        m.hours(2);
        Check.due("one sold", 1, m.count(6));
        Check.due("one lying", 2, m.count(5));
        Check.due("one rotten", 4, m.count(7));
        Check.due("one hanging", 8, m.count(4));
        return m;
    }
}
