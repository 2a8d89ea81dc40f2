import java.util.Arrays;
import java.util.NoSuchElementException;
import java.util.stream.IntStream;

/** What the tests share: answers compared with those due, and a run's end. */
final class Check {
    static final long THREW = Long.MIN_VALUE;

    private static int asked = 0;
    private static int wrong = 0;

    private Check() {
    }

    static void due(String call, long got, long want) {
        asked++;
        if (got != want) {
            wrong++;
            System.out.println(call + " answered " + got + ", due is " + want);
        }
    }

    static void due(String call, boolean got, boolean want) {
        due(call, number(got), number(want));
    }

    static long number(boolean answer) {
        return answer ? 1 : 0;
    }

    /**
     * Numbers that are not from least to most: the next ones on either side, those that look like good ones where
     * higher bits are lost, and the ends of int.
     */
    static int[] outside(int least, int most) {
        int[] tries = {least - 1, most + 1, least - 256, most + 256, least + (1 << 16), least + (1 << 24),
            most - (1 << 24), least + Integer.MIN_VALUE, most + Integer.MIN_VALUE, Integer.MIN_VALUE,
            Integer.MAX_VALUE};
        return Arrays.stream(tries).filter(n -> n < least || n > most).distinct().toArray();
    }

    /** The ends of what is taken, and what stands next to them inside. */
    static int[] ends(int least, int most) {
        return IntStream.of(least, least + 1, most - 1, most).filter(n -> n >= least && n <= most).distinct()
            .toArray();
    }

    /** What out answers, or THREW where it throws what the document names. */
    static long out(KeyPlan plan, int i, int what) {
        try {
            return plan.out(i, what);
        } catch (NoSuchElementException e) {
            return THREW;
        }
    }

    static void dueOut(KeyPlan plan, int i, int command, int tick) {
        due("out(" + i + ", 0)", out(plan, i, 0), command);
        due("out(" + i + ", 1)", out(plan, i, 1), tick);
    }

    static int row(int... strokes) {
        int row = 0;
        for (int i = strokes.length - 1; i >= 0; i--) {
            row = row * 256 + strokes[i];
        }
        return row;
    }

    static void end() {
        System.out.println(asked + " answers looked at, " + wrong + " not as due");
        if (wrong != 0 || asked == 0) {
            System.exit(1);
        }
    }
}
